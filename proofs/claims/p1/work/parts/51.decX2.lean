/-! DECODE ROWS -/
theorem prd_X_lookAll_55 : decode prb_X_lookAll 55 = .ok (.getfield 47, 3) := by decide +kernel
theorem prd_X_lookAll_58 : decode prb_X_lookAll 58 = .ok (.iload_n 2, 1) := by decide +kernel
theorem prd_X_lookAll_59 : decode prb_X_lookAll 59 = .ok (.iaload, 1) := by decide +kernel
theorem prd_X_lookAll_60 : decode prb_X_lookAll 60 = .ok (.bipush 13, 2) := by decide +kernel
theorem prd_X_lookAll_62 : decode prb_X_lookAll 62 = .ok (.if_icmp .ne 14, 3) := by decide +kernel
theorem prd_X_lookAll_65 : decode prb_X_lookAll 65 = .ok (.aload_n 0, 1) := by decide +kernel
theorem prd_X_lookAll_66 : decode prb_X_lookAll 66 = .ok (.iload_n 2, 1) := by decide +kernel
theorem prd_X_lookAll_67 : decode prb_X_lookAll 67 = .ok (.iload_n 3, 1) := by decide +kernel
theorem prd_X_lookAll_68 : decode prb_X_lookAll 68 = .ok (.invokevirtual 328, 3) := by decide +kernel
theorem prd_X_lookAll_71 : decode prb_X_lookAll 71 = .ok (.ifCond .ne 5, 3) := by decide +kernel
theorem prd_X_lookAll_74 : decode prb_X_lookAll 74 = .ok (.iconst 0, 1) := by decide +kernel
theorem prd_X_lookAll_75 : decode prb_X_lookAll 75 = .ok (.ireturn, 1) := by decide +kernel
theorem prd_X_lookAll_76 : decode prb_X_lookAll 76 = .ok (.aload_n 0, 1) := by decide +kernel
theorem prd_X_lookAll_77 : decode prb_X_lookAll 77 = .ok (.getfield 47, 3) := by decide +kernel
theorem prd_X_lookAll_80 : decode prb_X_lookAll 80 = .ok (.iload_n 2, 1) := by decide +kernel
theorem prd_X_lookAll_81 : decode prb_X_lookAll 81 = .ok (.iaload, 1) := by decide +kernel
theorem prd_X_lookAll_82 : decode prb_X_lookAll 82 = .ok (.bipush 16, 2) := by decide +kernel
theorem prd_X_lookAll_84 : decode prb_X_lookAll 84 = .ok (.if_icmp .ne 42, 3) := by decide +kernel
theorem prd_X_lookAll_126 : decode prb_X_lookAll 126 = .ok (.iinc 2 1, 3) := by decide +kernel
theorem prd_X_lookAll_129 : decode prb_X_lookAll 129 = .ok (.goto (-127), 3) := by decide +kernel
theorem prd_X_lookAll_87 : decode prb_X_lookAll 87 = .ok (.aload_n 0, 1) := by decide +kernel
theorem prd_X_lookAll_88 : decode prb_X_lookAll 88 = .ok (.getfield 59, 3) := by decide +kernel
theorem prd_X_lookAll_91 : decode prb_X_lookAll 91 = .ok (.iload_n 2, 1) := by decide +kernel
theorem prd_X_lookAll_92 : decode prb_X_lookAll 92 = .ok (.iaload, 1) := by decide +kernel
theorem prd_X_lookAll_93 : decode prb_X_lookAll 93 = .ok (.iconst 1, 1) := by decide +kernel
theorem prd_X_lookAll_94 : decode prb_X_lookAll 94 = .ok (.if_icmp .le 32, 3) := by decide +kernel
theorem prd_X_lookAll_97 : decode prb_X_lookAll 97 = .ok (.aload_n 0, 1) := by decide +kernel
theorem prd_X_lookAll_98 : decode prb_X_lookAll 98 = .ok (.getfield 53, 3) := by decide +kernel
theorem prd_X_lookAll_101 : decode prb_X_lookAll 101 = .ok (.iload_n 2, 1) := by decide +kernel
theorem prd_X_lookAll_102 : decode prb_X_lookAll 102 = .ok (.iconst 1, 1) := by decide +kernel
theorem prd_X_lookAll_103 : decode prb_X_lookAll 103 = .ok (.iadd, 1) := by decide +kernel
theorem prd_X_lookAll_104 : decode prb_X_lookAll 104 = .ok (.iaload, 1) := by decide +kernel
theorem prd_X_lookAll_105 : decode prb_X_lookAll 105 = .ok (.aload_n 0, 1) := by decide +kernel
theorem prd_X_lookAll_106 : decode prb_X_lookAll 106 = .ok (.getfield 53, 3) := by decide +kernel
theorem prd_X_lookAll_109 : decode prb_X_lookAll 109 = .ok (.iload_n 2, 1) := by decide +kernel
theorem prd_X_lookAll_110 : decode prb_X_lookAll 110 = .ok (.iconst 2, 1) := by decide +kernel
theorem prd_X_lookAll_111 : decode prb_X_lookAll 111 = .ok (.iadd, 1) := by decide +kernel
theorem prd_X_lookAll_112 : decode prb_X_lookAll 112 = .ok (.iaload, 1) := by decide +kernel
theorem prd_X_lookAll_113 : decode prb_X_lookAll 113 = .ok (.if_icmp .le 13, 3) := by decide +kernel
theorem prd_X_lookAll_116 : decode prb_X_lookAll 116 = .ok (.aload_n 0, 1) := by decide +kernel
theorem prd_X_lookAll_117 : decode prb_X_lookAll 117 = .ok (.bipush 8, 2) := by decide +kernel
theorem prd_X_lookAll_119 : decode prb_X_lookAll 119 = .ok (.iload_n 2, 1) := by decide +kernel
theorem prd_X_lookAll_120 : decode prb_X_lookAll 120 = .ok (.iconst 1, 1) := by decide +kernel
theorem prd_X_lookAll_121 : decode prb_X_lookAll 121 = .ok (.iadd, 1) := by decide +kernel
theorem prd_X_lookAll_122 : decode prb_X_lookAll 122 = .ok (.invokevirtual 325, 3) := by decide +kernel
theorem prd_X_lookAll_125 : decode prb_X_lookAll 125 = .ok (.ireturn, 1) := by decide +kernel
theorem prd_X_lookAll_52 : decode prb_X_lookAll 52 = .ok (.iconst 0, 1) := by decide +kernel
theorem prd_X_give_0 : decode prb_X_give 0 = .ok (.aload_n 0, 1) := by decide +kernel
theorem prd_X_give_1 : decode prb_X_give 1 = .ok (.getfield 95, 3) := by decide +kernel
theorem prd_X_give_4 : decode prb_X_give 4 = .ok (.aload_n 0, 1) := by decide +kernel
theorem prd_X_give_5 : decode prb_X_give 5 = .ok (.getfield 316, 3) := by decide +kernel
theorem prd_X_give_8 : decode prb_X_give 8 = .ok (.iload_n 1, 1) := by decide +kernel
theorem prd_X_give_9 : decode prb_X_give 9 = .ok (.iastore, 1) := by decide +kernel
theorem prd_X_give_10 : decode prb_X_give 10 = .ok (.aload_n 0, 1) := by decide +kernel
theorem prd_X_give_11 : decode prb_X_give 11 = .ok (.getfield 98, 3) := by decide +kernel
theorem prd_X_give_14 : decode prb_X_give 14 = .ok (.aload_n 0, 1) := by decide +kernel
theorem prd_X_give_15 : decode prb_X_give 15 = .ok (.getfield 316, 3) := by decide +kernel
theorem prd_X_give_18 : decode prb_X_give 18 = .ok (.iload_n 2, 1) := by decide +kernel
theorem prd_X_give_19 : decode prb_X_give 19 = .ok (.iastore, 1) := by decide +kernel
theorem prd_X_give_20 : decode prb_X_give 20 = .ok (.aload_n 0, 1) := by decide +kernel
theorem prd_X_give_21 : decode prb_X_give 21 = .ok (.getfield 101, 3) := by decide +kernel
theorem prd_X_give_24 : decode prb_X_give 24 = .ok (.aload_n 0, 1) := by decide +kernel
theorem prd_X_give_25 : decode prb_X_give 25 = .ok (.getfield 316, 3) := by decide +kernel
theorem prd_X_give_28 : decode prb_X_give 28 = .ok (.iload_n 3, 1) := by decide +kernel
theorem prd_X_give_29 : decode prb_X_give 29 = .ok (.iastore, 1) := by decide +kernel
theorem prd_X_give_30 : decode prb_X_give 30 = .ok (.aload_n 0, 1) := by decide +kernel
theorem prd_X_give_31 : decode prb_X_give 31 = .ok (.getfield 104, 3) := by decide +kernel
theorem prd_X_give_34 : decode prb_X_give 34 = .ok (.aload_n 0, 1) := by decide +kernel
theorem prd_X_give_35 : decode prb_X_give 35 = .ok (.getfield 316, 3) := by decide +kernel
theorem prd_X_give_38 : decode prb_X_give 38 = .ok (.iload 4, 2) := by decide +kernel
theorem prd_X_give_40 : decode prb_X_give 40 = .ok (.iastore, 1) := by decide +kernel
theorem prd_X_give_41 : decode prb_X_give 41 = .ok (.aload_n 0, 1) := by decide +kernel
theorem prd_X_give_42 : decode prb_X_give 42 = .ok (.dup, 1) := by decide +kernel
theorem prd_X_give_43 : decode prb_X_give 43 = .ok (.getfield 316, 3) := by decide +kernel
theorem prd_X_give_46 : decode prb_X_give 46 = .ok (.iconst 1, 1) := by decide +kernel
theorem prd_X_give_47 : decode prb_X_give 47 = .ok (.iadd, 1) := by decide +kernel
theorem prd_X_give_48 : decode prb_X_give 48 = .ok (.putfield 316, 3) := by decide +kernel
theorem prd_X_give_51 : decode prb_X_give 51 = .ok (.return_, 1) := by decide +kernel
theorem prd_X_whichFunction_0 : decode prb_X_whichFunction 0 = .ok (.iload_n 1, 1) := by decide +kernel
theorem prd_X_whichFunction_1 : decode prb_X_whichFunction 1 = .ok (.istore_n 2, 1) := by decide +kernel
theorem prd_X_whichFunction_2 : decode prb_X_whichFunction 2 = .ok (.aload_n 0, 1) := by decide +kernel
theorem prd_X_whichFunction_3 : decode prb_X_whichFunction 3 = .ok (.getfield 56, 3) := by decide +kernel
theorem prd_X_whichFunction_6 : decode prb_X_whichFunction 6 = .ok (.iload_n 2, 1) := by decide +kernel
theorem prd_X_whichFunction_7 : decode prb_X_whichFunction 7 = .ok (.iaload, 1) := by decide +kernel
theorem prd_X_whichFunction_8 : decode prb_X_whichFunction 8 = .ok (.ifCond .eq 13, 3) := by decide +kernel
theorem prd_X_whichFunction_21 : decode prb_X_whichFunction 21 = .ok (.iload_n 2, 1) := by decide +kernel
theorem prd_X_whichFunction_22 : decode prb_X_whichFunction 22 = .ok (.ireturn, 1) := by decide +kernel
theorem prd_X_whichFunction_11 : decode prb_X_whichFunction 11 = .ok (.aload_n 0, 1) := by decide +kernel
theorem prd_X_whichFunction_12 : decode prb_X_whichFunction 12 = .ok (.getfield 56, 3) := by decide +kernel
theorem prd_X_whichFunction_15 : decode prb_X_whichFunction 15 = .ok (.iload_n 2, 1) := by decide +kernel
theorem prd_X_whichFunction_16 : decode prb_X_whichFunction 16 = .ok (.iaload, 1) := by decide +kernel
theorem prd_X_whichFunction_17 : decode prb_X_whichFunction 17 = .ok (.istore_n 2, 1) := by decide +kernel
theorem prd_X_whichFunction_18 : decode prb_X_whichFunction 18 = .ok (.goto (-16), 3) := by decide +kernel
theorem prd_X_functionOf_0 : decode prb_X_functionOf 0 = .ok (.iconst (-1), 1) := by decide +kernel
theorem prd_X_functionOf_1 : decode prb_X_functionOf 1 = .ok (.istore_n 3, 1) := by decide +kernel
theorem prd_X_functionOf_2 : decode prb_X_functionOf 2 = .ok (.iconst 1, 1) := by decide +kernel
theorem prd_X_functionOf_3 : decode prb_X_functionOf 3 = .ok (.istore 4, 2) := by decide +kernel
theorem prd_X_functionOf_5 : decode prb_X_functionOf 5 = .ok (.iload 4, 2) := by decide +kernel
theorem prd_X_functionOf_7 : decode prb_X_functionOf 7 = .ok (.aload_n 0, 1) := by decide +kernel
theorem prd_X_functionOf_8 : decode prb_X_functionOf 8 = .ok (.getfield 160, 3) := by decide +kernel
theorem prd_X_functionOf_11 : decode prb_X_functionOf 11 = .ok (.if_icmp .ge 44, 3) := by decide +kernel
theorem prd_X_functionOf_55 : decode prb_X_functionOf 55 = .ok (.iload_n 3, 1) := by decide +kernel
theorem prd_X_functionOf_56 : decode prb_X_functionOf 56 = .ok (.ireturn, 1) := by decide +kernel
theorem prd_X_functionOf_14 : decode prb_X_functionOf 14 = .ok (.aload_n 0, 1) := by decide +kernel
theorem prd_X_functionOf_15 : decode prb_X_functionOf 15 = .ok (.iload 4, 2) := by decide +kernel
theorem prd_X_functionOf_17 : decode prb_X_functionOf 17 = .ok (.invokevirtual 307, 3) := by decide +kernel
theorem prd_X_functionOf_20 : decode prb_X_functionOf 20 = .ok (.iload_n 2, 1) := by decide +kernel
theorem prd_X_functionOf_21 : decode prb_X_functionOf 21 = .ok (.if_icmp .gt 21, 3) := by decide +kernel
theorem prd_X_functionOf_42 : decode prb_X_functionOf 42 = .ok (.iload_n 3, 1) := by decide +kernel
theorem prd_X_functionOf_43 : decode prb_X_functionOf 43 = .ok (.istore_n 3, 1) := by decide +kernel
theorem prd_X_functionOf_44 : decode prb_X_functionOf 44 = .ok (.aload_n 0, 1) := by decide +kernel
theorem prd_X_functionOf_45 : decode prb_X_functionOf 45 = .ok (.iload 4, 2) := by decide +kernel
theorem prd_X_functionOf_47 : decode prb_X_functionOf 47 = .ok (.invokevirtual 307, 3) := by decide +kernel
theorem prd_X_functionOf_50 : decode prb_X_functionOf 50 = .ok (.istore 4, 2) := by decide +kernel
theorem prd_X_functionOf_52 : decode prb_X_functionOf 52 = .ok (.goto (-47), 3) := by decide +kernel
theorem prd_X_functionOf_24 : decode prb_X_functionOf 24 = .ok (.aload_n 0, 1) := by decide +kernel
theorem prd_X_functionOf_25 : decode prb_X_functionOf 25 = .ok (.getfield 53, 3) := by decide +kernel
theorem prd_X_functionOf_28 : decode prb_X_functionOf 28 = .ok (.iload 4, 2) := by decide +kernel
theorem prd_X_functionOf_30 : decode prb_X_functionOf 30 = .ok (.iconst 1, 1) := by decide +kernel
theorem prd_X_functionOf_31 : decode prb_X_functionOf 31 = .ok (.iadd, 1) := by decide +kernel
theorem prd_X_functionOf_32 : decode prb_X_functionOf 32 = .ok (.iaload, 1) := by decide +kernel
theorem prd_X_functionOf_33 : decode prb_X_functionOf 33 = .ok (.iload_n 1, 1) := by decide +kernel
theorem prd_X_functionOf_34 : decode prb_X_functionOf 34 = .ok (.if_icmp .ne 8, 3) := by decide +kernel
theorem prd_X_functionOf_37 : decode prb_X_functionOf 37 = .ok (.iload 4, 2) := by decide +kernel
theorem prd_X_functionOf_39 : decode prb_X_functionOf 39 = .ok (.goto 4, 3) := by decide +kernel
theorem prd_X_lastStatement_0 : decode prb_X_lastStatement 0 = .ok (.iconst (-1), 1) := by decide +kernel
theorem prd_X_lastStatement_1 : decode prb_X_lastStatement 1 = .ok (.istore_n 2, 1) := by decide +kernel
theorem prd_X_lastStatement_2 : decode prb_X_lastStatement 2 = .ok (.iload_n 1, 1) := by decide +kernel
theorem prd_X_lastStatement_3 : decode prb_X_lastStatement 3 = .ok (.iconst 1, 1) := by decide +kernel
theorem prd_X_lastStatement_4 : decode prb_X_lastStatement 4 = .ok (.iadd, 1) := by decide +kernel
theorem prd_X_lastStatement_5 : decode prb_X_lastStatement 5 = .ok (.istore_n 3, 1) := by decide +kernel
theorem prd_X_lastStatement_6 : decode prb_X_lastStatement 6 = .ok (.iload_n 3, 1) := by decide +kernel
theorem prd_X_lastStatement_7 : decode prb_X_lastStatement 7 = .ok (.aload_n 0, 1) := by decide +kernel
theorem prd_X_lastStatement_8 : decode prb_X_lastStatement 8 = .ok (.iload_n 1, 1) := by decide +kernel
theorem prd_X_lastStatement_9 : decode prb_X_lastStatement 9 = .ok (.invokevirtual 307, 3) := by decide +kernel
theorem prd_X_lastStatement_12 : decode prb_X_lastStatement 12 = .ok (.if_icmp .ge 14, 3) := by decide +kernel
theorem prd_X_lastStatement_26 : decode prb_X_lastStatement 26 = .ok (.iload_n 2, 1) := by decide +kernel
theorem prd_X_lastStatement_27 : decode prb_X_lastStatement 27 = .ok (.ireturn, 1) := by decide +kernel
theorem prd_X_lastStatement_15 : decode prb_X_lastStatement 15 = .ok (.iload_n 3, 1) := by decide +kernel
theorem prd_X_lastStatement_16 : decode prb_X_lastStatement 16 = .ok (.istore_n 2, 1) := by decide +kernel
theorem prd_X_lastStatement_17 : decode prb_X_lastStatement 17 = .ok (.aload_n 0, 1) := by decide +kernel
theorem prd_X_lastStatement_18 : decode prb_X_lastStatement 18 = .ok (.iload_n 3, 1) := by decide +kernel
theorem prd_X_lastStatement_19 : decode prb_X_lastStatement 19 = .ok (.invokevirtual 307, 3) := by decide +kernel
theorem prd_X_lastStatement_22 : decode prb_X_lastStatement 22 = .ok (.istore_n 3, 1) := by decide +kernel
theorem prd_X_lastStatement_23 : decode prb_X_lastStatement 23 = .ok (.goto (-17), 3) := by decide +kernel
theorem prd_X_returns_0 : decode prb_X_returns 0 = .ok (.aload_n 0, 1) := by decide +kernel
theorem prd_X_returns_1 : decode prb_X_returns 1 = .ok (.aload_n 0, 1) := by decide +kernel
theorem prd_X_returns_2 : decode prb_X_returns 2 = .ok (.iload_n 1, 1) := by decide +kernel
theorem prd_X_returns_3 : decode prb_X_returns 3 = .ok (.invokevirtual 310, 3) := by decide +kernel
theorem prd_X_returns_6 : decode prb_X_returns 6 = .ok (.invokevirtual 313, 3) := by decide +kernel
theorem prd_X_returns_9 : decode prb_X_returns 9 = .ok (.istore_n 2, 1) := by decide +kernel
theorem prd_X_returns_10 : decode prb_X_returns 10 = .ok (.iload_n 2, 1) := by decide +kernel
theorem prd_X_returns_11 : decode prb_X_returns 11 = .ok (.iconst (-1), 1) := by decide +kernel
theorem prd_X_returns_12 : decode prb_X_returns 12 = .ok (.if_icmp .eq 18, 3) := by decide +kernel
theorem prd_X_returns_30 : decode prb_X_returns 30 = .ok (.iconst 0, 1) := by decide +kernel
theorem prd_X_returns_31 : decode prb_X_returns 31 = .ok (.ireturn, 1) := by decide +kernel
theorem prd_X_returns_15 : decode prb_X_returns 15 = .ok (.aload_n 0, 1) := by decide +kernel
theorem prd_X_returns_16 : decode prb_X_returns 16 = .ok (.getfield 47, 3) := by decide +kernel
theorem prd_X_returns_19 : decode prb_X_returns 19 = .ok (.iload_n 2, 1) := by decide +kernel
theorem prd_X_returns_20 : decode prb_X_returns 20 = .ok (.iaload, 1) := by decide +kernel
theorem prd_X_returns_21 : decode prb_X_returns 21 = .ok (.bipush 11, 2) := by decide +kernel
theorem prd_X_returns_23 : decode prb_X_returns 23 = .ok (.if_icmp .ne 7, 3) := by decide +kernel
theorem prd_X_returns_26 : decode prb_X_returns 26 = .ok (.iconst 1, 1) := by decide +kernel
theorem prd_X_returns_27 : decode prb_X_returns 27 = .ok (.goto 4, 3) := by decide +kernel
theorem prd_X_call_0 : decode prb_X_call 0 = .ok (.iload_n 1, 1) := by decide +kernel
theorem prd_X_call_1 : decode prb_X_call 1 = .ok (.iconst 2, 1) := by decide +kernel
theorem prd_X_call_2 : decode prb_X_call 2 = .ok (.iadd, 1) := by decide +kernel
theorem prd_X_call_3 : decode prb_X_call 3 = .ok (.istore_n 3, 1) := by decide +kernel
theorem prd_X_call_4 : decode prb_X_call 4 = .ok (.iconst (-1), 1) := by decide +kernel
theorem prd_X_call_5 : decode prb_X_call 5 = .ok (.istore 4, 2) := by decide +kernel
theorem prd_X_call_7 : decode prb_X_call 7 = .ok (.aload_n 0, 1) := by decide +kernel
theorem prd_X_call_8 : decode prb_X_call 8 = .ok (.getfield 47, 3) := by decide +kernel
theorem prd_X_call_11 : decode prb_X_call 11 = .ok (.iload_n 1, 1) := by decide +kernel
theorem prd_X_call_12 : decode prb_X_call 12 = .ok (.iconst 1, 1) := by decide +kernel
theorem prd_X_call_13 : decode prb_X_call 13 = .ok (.iadd, 1) := by decide +kernel
theorem prd_X_call_14 : decode prb_X_call 14 = .ok (.iaload, 1) := by decide +kernel
theorem prd_X_call_15 : decode prb_X_call 15 = .ok (.bipush 33, 2) := by decide +kernel
theorem prd_X_call_17 : decode prb_X_call 17 = .ok (.if_icmp .eq 14, 3) := by decide +kernel
theorem prd_X_call_20 : decode prb_X_call 20 = .ok (.aload_n 0, 1) := by decide +kernel
theorem prd_X_call_21 : decode prb_X_call 21 = .ok (.iload_n 1, 1) := by decide +kernel
theorem prd_X_call_22 : decode prb_X_call 22 = .ok (.iconst 1, 1) := by decide +kernel
theorem prd_X_call_23 : decode prb_X_call 23 = .ok (.iadd, 1) := by decide +kernel
theorem prd_X_call_24 : decode prb_X_call 24 = .ok (.iconst 0, 1) := by decide +kernel
theorem prd_X_call_25 : decode prb_X_call 25 = .ok (.invokevirtual 328, 3) := by decide +kernel
theorem prd_X_call_28 : decode prb_X_call 28 = .ok (.ifCond .eq 20, 3) := by decide +kernel
theorem prd_X_call_48 : decode prb_X_call 48 = .ok (.aload_n 0, 1) := by decide +kernel
theorem prd_X_call_49 : decode prb_X_call 49 = .ok (.getfield 298, 3) := by decide +kernel
theorem prd_X_call_52 : decode prb_X_call 52 = .ok (.ifCond .le 4, 3) := by decide +kernel
theorem prd_X_call_56 : decode prb_X_call 56 = .ok (.iload 4, 2) := by decide +kernel
theorem prd_X_call_58 : decode prb_X_call 58 = .ok (.iconst (-1), 1) := by decide +kernel
theorem prd_X_call_59 : decode prb_X_call 59 = .ok (.if_icmp .ne 11, 3) := by decide +kernel
theorem prd_X_call_70 : decode prb_X_call 70 = .ok (.aload_n 0, 1) := by decide +kernel
theorem prd_X_call_71 : decode prb_X_call 71 = .ok (.iload 4, 2) := by decide +kernel
theorem prd_X_call_73 : decode prb_X_call 73 = .ok (.invokevirtual 310, 3) := by decide +kernel
theorem prd_X_call_76 : decode prb_X_call 76 = .ok (.iload 4, 2) := by decide +kernel
theorem prd_X_call_78 : decode prb_X_call 78 = .ok (.isub, 1) := by decide +kernel
theorem prd_X_call_79 : decode prb_X_call 79 = .ok (.iconst 2, 1) := by decide +kernel
theorem prd_X_call_80 : decode prb_X_call 80 = .ok (.isub, 1) := by decide +kernel
theorem prd_X_call_81 : decode prb_X_call 81 = .ok (.istore 5, 2) := by decide +kernel
theorem prd_X_call_83 : decode prb_X_call 83 = .ok (.iconst 0, 1) := by decide +kernel
theorem prd_X_call_84 : decode prb_X_call 84 = .ok (.istore 6, 2) := by decide +kernel
theorem prd_X_call_86 : decode prb_X_call 86 = .ok (.iload_n 3, 1) := by decide +kernel
theorem prd_X_call_87 : decode prb_X_call 87 = .ok (.iconst 1, 1) := by decide +kernel
theorem prd_X_call_88 : decode prb_X_call 88 = .ok (.iadd, 1) := by decide +kernel
theorem prd_X_call_89 : decode prb_X_call 89 = .ok (.istore 7, 2) := by decide +kernel
theorem prd_X_call_62 : decode prb_X_call 62 = .ok (.aload_n 0, 1) := by decide +kernel
theorem prd_X_call_63 : decode prb_X_call 63 = .ok (.iconst 4, 1) := by decide +kernel
theorem prd_X_call_64 : decode prb_X_call 64 = .ok (.iload_n 3, 1) := by decide +kernel
theorem prd_X_call_65 : decode prb_X_call 65 = .ok (.invokevirtual 325, 3) := by decide +kernel
theorem prd_X_call_68 : decode prb_X_call 68 = .ok (.pop, 1) := by decide +kernel
theorem prd_X_call_69 : decode prb_X_call 69 = .ok (.return_, 1) := by decide +kernel
theorem prd_X_call_55 : decode prb_X_call 55 = .ok (.return_, 1) := by decide +kernel
theorem prd_X_call_91 : decode prb_X_call 91 = .ok (.iload 7, 2) := by decide +kernel
theorem prd_X_call_93 : decode prb_X_call 93 = .ok (.aload_n 0, 1) := by decide +kernel
theorem prd_X_call_94 : decode prb_X_call 94 = .ok (.iload_n 1, 1) := by decide +kernel
theorem prd_X_call_95 : decode prb_X_call 95 = .ok (.invokevirtual 307, 3) := by decide +kernel
theorem prd_X_call_98 : decode prb_X_call 98 = .ok (.if_icmp .ge 17, 3) := by decide +kernel
theorem prd_X_call_115 : decode prb_X_call 115 = .ok (.iload 6, 2) := by decide +kernel
theorem prd_X_call_117 : decode prb_X_call 117 = .ok (.iload 5, 2) := by decide +kernel
theorem prd_X_call_119 : decode prb_X_call 119 = .ok (.if_icmp .eq 11, 3) := by decide +kernel
theorem prd_X_call_130 : decode prb_X_call 130 = .ok (.aload_n 0, 1) := by decide +kernel
theorem prd_X_call_131 : decode prb_X_call 131 = .ok (.getfield 47, 3) := by decide +kernel
theorem prd_X_call_134 : decode prb_X_call 134 = .ok (.iload_n 1, 1) := by decide +kernel
theorem prd_X_call_135 : decode prb_X_call 135 = .ok (.iconst 1, 1) := by decide +kernel
theorem prd_X_call_136 : decode prb_X_call 136 = .ok (.iadd, 1) := by decide +kernel
theorem prd_X_call_137 : decode prb_X_call 137 = .ok (.iaload, 1) := by decide +kernel
theorem prd_X_call_138 : decode prb_X_call 138 = .ok (.bipush 13, 2) := by decide +kernel
theorem prd_X_call_140 : decode prb_X_call 140 = .ok (.if_icmp .ne 21, 3) := by decide +kernel
theorem prd_X_call_161 : decode prb_X_call 161 = .ok (.iload_n 3, 1) := by decide +kernel
theorem prd_X_call_162 : decode prb_X_call 162 = .ok (.iconst 1, 1) := by decide +kernel
theorem prd_X_call_163 : decode prb_X_call 163 = .ok (.iadd, 1) := by decide +kernel
theorem prd_X_call_164 : decode prb_X_call 164 = .ok (.istore 7, 2) := by decide +kernel
theorem prd_X_call_143 : decode prb_X_call 143 = .ok (.aload_n 0, 1) := by decide +kernel
theorem prd_X_call_144 : decode prb_X_call 144 = .ok (.iload 4, 2) := by decide +kernel
theorem prd_X_call_146 : decode prb_X_call 146 = .ok (.invokevirtual 368, 3) := by decide +kernel
theorem prd_X_call_149 : decode prb_X_call 149 = .ok (.ifCond .ne 12, 3) := by decide +kernel
theorem prd_X_call_152 : decode prb_X_call 152 = .ok (.aload_n 0, 1) := by decide +kernel
theorem prd_X_call_153 : decode prb_X_call 153 = .ok (.bipush 6, 2) := by decide +kernel
theorem prd_X_call_155 : decode prb_X_call 155 = .ok (.iload_n 3, 1) := by decide +kernel
theorem prd_X_call_156 : decode prb_X_call 156 = .ok (.invokevirtual 325, 3) := by decide +kernel
theorem prd_X_call_159 : decode prb_X_call 159 = .ok (.pop, 1) := by decide +kernel
theorem prd_X_call_160 : decode prb_X_call 160 = .ok (.return_, 1) := by decide +kernel
theorem prd_X_call_122 : decode prb_X_call 122 = .ok (.aload_n 0, 1) := by decide +kernel
theorem prd_X_call_123 : decode prb_X_call 123 = .ok (.iconst 5, 1) := by decide +kernel
theorem prd_X_call_124 : decode prb_X_call 124 = .ok (.iload_n 3, 1) := by decide +kernel
theorem prd_X_call_125 : decode prb_X_call 125 = .ok (.invokevirtual 325, 3) := by decide +kernel
theorem prd_X_call_128 : decode prb_X_call 128 = .ok (.pop, 1) := by decide +kernel
theorem prd_X_call_129 : decode prb_X_call 129 = .ok (.return_, 1) := by decide +kernel
theorem prd_X_call_101 : decode prb_X_call 101 = .ok (.iinc 6 1, 3) := by decide +kernel
theorem prd_X_call_104 : decode prb_X_call 104 = .ok (.aload_n 0, 1) := by decide +kernel
theorem prd_X_call_105 : decode prb_X_call 105 = .ok (.iload 7, 2) := by decide +kernel
theorem prd_X_call_107 : decode prb_X_call 107 = .ok (.invokevirtual 307, 3) := by decide +kernel
theorem prd_X_call_110 : decode prb_X_call 110 = .ok (.istore 7, 2) := by decide +kernel
theorem prd_X_call_112 : decode prb_X_call 112 = .ok (.goto (-21), 3) := by decide +kernel
theorem prd_X_call_166 : decode prb_X_call 166 = .ok (.iload 7, 2) := by decide +kernel
theorem prd_X_call_168 : decode prb_X_call 168 = .ok (.aload_n 0, 1) := by decide +kernel
theorem prd_X_call_169 : decode prb_X_call 169 = .ok (.iload_n 1, 1) := by decide +kernel
theorem prd_X_call_170 : decode prb_X_call 170 = .ok (.invokevirtual 307, 3) := by decide +kernel
theorem prd_X_call_173 : decode prb_X_call 173 = .ok (.if_icmp .ge 24, 3) := by decide +kernel
theorem prd_X_call_197 : decode prb_X_call 197 = .ok (.aload_n 0, 1) := by decide +kernel
theorem prd_X_call_198 : decode prb_X_call 198 = .ok (.getfield 316, 3) := by decide +kernel
theorem prd_X_call_201 : decode prb_X_call 201 = .ok (.istore 7, 2) := by decide +kernel
theorem prd_X_call_203 : decode prb_X_call 203 = .ok (.aload_n 0, 1) := by decide +kernel
theorem prd_X_call_204 : decode prb_X_call 204 = .ok (.getfield 319, 3) := by decide +kernel
theorem prd_X_call_207 : decode prb_X_call 207 = .ok (.istore 8, 2) := by decide +kernel
theorem prd_X_call_209 : decode prb_X_call 209 = .ok (.aload_n 0, 1) := by decide +kernel
theorem prd_X_call_210 : decode prb_X_call 210 = .ok (.getfield 335, 3) := by decide +kernel
theorem prd_X_call_213 : decode prb_X_call 213 = .ok (.istore 9, 2) := by decide +kernel
theorem prd_X_call_215 : decode prb_X_call 215 = .ok (.aload_n 0, 1) := by decide +kernel
theorem prd_X_call_216 : decode prb_X_call 216 = .ok (.aload_n 0, 1) := by decide +kernel
theorem prd_X_call_217 : decode prb_X_call 217 = .ok (.getfield 316, 3) := by decide +kernel
theorem prd_X_call_220 : decode prb_X_call 220 = .ok (.putfield 319, 3) := by decide +kernel
theorem prd_X_call_223 : decode prb_X_call 223 = .ok (.aload_n 0, 1) := by decide +kernel
theorem prd_X_call_224 : decode prb_X_call 224 = .ok (.dup, 1) := by decide +kernel
theorem prd_X_call_225 : decode prb_X_call 225 = .ok (.getfield 332, 3) := by decide +kernel
theorem prd_X_call_228 : decode prb_X_call 228 = .ok (.iconst 1, 1) := by decide +kernel
theorem prd_X_call_229 : decode prb_X_call 229 = .ok (.iadd, 1) := by decide +kernel
theorem prd_X_call_230 : decode prb_X_call 230 = .ok (.putfield 332, 3) := by decide +kernel
theorem prd_X_call_233 : decode prb_X_call 233 = .ok (.aload_n 0, 1) := by decide +kernel
theorem prd_X_call_234 : decode prb_X_call 234 = .ok (.getfield 332, 3) := by decide +kernel
theorem prd_X_call_237 : decode prb_X_call 237 = .ok (.istore 10, 2) := by decide +kernel
theorem prd_X_call_239 : decode prb_X_call 239 = .ok (.iconst 0, 1) := by decide +kernel
theorem prd_X_call_240 : decode prb_X_call 240 = .ok (.istore 11, 2) := by decide +kernel
theorem prd_X_call_176 : decode prb_X_call 176 = .ok (.aload_n 0, 1) := by decide +kernel
theorem prd_X_call_177 : decode prb_X_call 177 = .ok (.iload 7, 2) := by decide +kernel
theorem prd_X_call_179 : decode prb_X_call 179 = .ok (.invokevirtual 353, 3) := by decide +kernel
theorem prd_X_call_182 : decode prb_X_call 182 = .ok (.ifCond .ne 4, 3) := by decide +kernel
theorem prd_X_call_186 : decode prb_X_call 186 = .ok (.aload_n 0, 1) := by decide +kernel
theorem prd_X_call_187 : decode prb_X_call 187 = .ok (.iload 7, 2) := by decide +kernel
theorem prd_X_call_189 : decode prb_X_call 189 = .ok (.invokevirtual 307, 3) := by decide +kernel
theorem prd_X_call_192 : decode prb_X_call 192 = .ok (.istore 7, 2) := by decide +kernel
theorem prd_X_call_194 : decode prb_X_call 194 = .ok (.goto (-28), 3) := by decide +kernel
theorem prd_X_call_185 : decode prb_X_call 185 = .ok (.return_, 1) := by decide +kernel
theorem prd_X_call_242 : decode prb_X_call 242 = .ok (.iload 11, 2) := by decide +kernel
theorem prd_X_call_244 : decode prb_X_call 244 = .ok (.iload 5, 2) := by decide +kernel
theorem prd_X_call_246 : decode prb_X_call 246 = .ok (.if_icmp .ge 66, 3) := by decide +kernel
theorem prd_X_call_312 : decode prb_X_call 312 = .ok (.aload_n 0, 1) := by decide +kernel
theorem prd_X_call_313 : decode prb_X_call 313 = .ok (.getfield 335, 3) := by decide +kernel
theorem prd_X_call_316 : decode prb_X_call 316 = .ok (.iload 5, 2) := by decide +kernel
theorem prd_X_call_318 : decode prb_X_call 318 = .ok (.iadd, 1) := by decide +kernel
theorem prd_X_call_319 : decode prb_X_call 319 = .ok (.bipush 12, 2) := by decide +kernel
theorem prd_X_call_321 : decode prb_X_call 321 = .ok (.if_icmp .le 12, 3) := by decide +kernel
theorem prd_X_call_333 : decode prb_X_call 333 = .ok (.iconst 0, 1) := by decide +kernel
theorem prd_X_call_334 : decode prb_X_call 334 = .ok (.istore 11, 2) := by decide +kernel
theorem prd_X_call_324 : decode prb_X_call 324 = .ok (.aload_n 0, 1) := by decide +kernel
theorem prd_X_call_325 : decode prb_X_call 325 = .ok (.bipush 10, 2) := by decide +kernel
theorem prd_X_call_327 : decode prb_X_call 327 = .ok (.iload_n 1, 1) := by decide +kernel
theorem prd_X_call_328 : decode prb_X_call 328 = .ok (.invokevirtual 325, 3) := by decide +kernel
theorem prd_X_call_331 : decode prb_X_call 331 = .ok (.pop, 1) := by decide +kernel
theorem prd_X_call_332 : decode prb_X_call 332 = .ok (.return_, 1) := by decide +kernel
theorem prd_X_call_249 : decode prb_X_call 249 = .ok (.iconst 0, 1) := by decide +kernel
theorem prd_X_call_250 : decode prb_X_call 250 = .ok (.istore 12, 2) := by decide +kernel
theorem prd_X_call_252 : decode prb_X_call 252 = .ok (.iload 12, 2) := by decide +kernel
theorem prd_X_call_254 : decode prb_X_call 254 = .ok (.iload 11, 2) := by decide +kernel
theorem prd_X_call_256 : decode prb_X_call 256 = .ok (.if_icmp .ge 50, 3) := by decide +kernel
theorem prd_X_call_306 : decode prb_X_call 306 = .ok (.iinc 11 1, 3) := by decide +kernel
theorem prd_X_call_309 : decode prb_X_call 309 = .ok (.goto (-67), 3) := by decide +kernel
theorem prd_X_call_259 : decode prb_X_call 259 = .ok (.aload_n 0, 1) := by decide +kernel
theorem prd_X_call_260 : decode prb_X_call 260 = .ok (.getfield 53, 3) := by decide +kernel
theorem prd_X_call_263 : decode prb_X_call 263 = .ok (.iload 4, 2) := by decide +kernel
theorem prd_X_call_265 : decode prb_X_call 265 = .ok (.iconst 2, 1) := by decide +kernel
theorem prd_X_call_266 : decode prb_X_call 266 = .ok (.iadd, 1) := by decide +kernel
theorem prd_X_call_267 : decode prb_X_call 267 = .ok (.iload 11, 2) := by decide +kernel
theorem prd_X_call_269 : decode prb_X_call 269 = .ok (.iadd, 1) := by decide +kernel
theorem prd_X_call_270 : decode prb_X_call 270 = .ok (.iaload, 1) := by decide +kernel
theorem prd_X_call_271 : decode prb_X_call 271 = .ok (.aload_n 0, 1) := by decide +kernel
theorem prd_X_call_272 : decode prb_X_call 272 = .ok (.getfield 53, 3) := by decide +kernel
theorem prd_X_call_275 : decode prb_X_call 275 = .ok (.iload 4, 2) := by decide +kernel
theorem prd_X_call_277 : decode prb_X_call 277 = .ok (.iconst 2, 1) := by decide +kernel
theorem prd_X_call_278 : decode prb_X_call 278 = .ok (.iadd, 1) := by decide +kernel
theorem prd_X_call_279 : decode prb_X_call 279 = .ok (.iload 12, 2) := by decide +kernel
theorem prd_X_call_281 : decode prb_X_call 281 = .ok (.iadd, 1) := by decide +kernel
theorem prd_X_call_282 : decode prb_X_call 282 = .ok (.iaload, 1) := by decide +kernel
theorem prd_X_call_283 : decode prb_X_call 283 = .ok (.if_icmp .ne 17, 3) := by decide +kernel
theorem prd_X_call_300 : decode prb_X_call 300 = .ok (.iinc 12 1, 3) := by decide +kernel
theorem prd_X_call_303 : decode prb_X_call 303 = .ok (.goto (-51), 3) := by decide +kernel
theorem prd_X_call_286 : decode prb_X_call 286 = .ok (.aload_n 0, 1) := by decide +kernel
theorem prd_X_call_287 : decode prb_X_call 287 = .ok (.iconst 2, 1) := by decide +kernel
theorem prd_X_call_288 : decode prb_X_call 288 = .ok (.iload 4, 2) := by decide +kernel
theorem prd_X_call_290 : decode prb_X_call 290 = .ok (.iconst 2, 1) := by decide +kernel
theorem prd_X_call_291 : decode prb_X_call 291 = .ok (.iadd, 1) := by decide +kernel
theorem prd_X_call_292 : decode prb_X_call 292 = .ok (.iload 11, 2) := by decide +kernel
theorem prd_X_call_294 : decode prb_X_call 294 = .ok (.iadd, 1) := by decide +kernel
theorem prd_X_call_295 : decode prb_X_call 295 = .ok (.invokevirtual 325, 3) := by decide +kernel
theorem prd_X_call_298 : decode prb_X_call 298 = .ok (.pop, 1) := by decide +kernel
theorem prd_X_call_299 : decode prb_X_call 299 = .ok (.return_, 1) := by decide +kernel
theorem prd_X_call_336 : decode prb_X_call 336 = .ok (.iload 11, 2) := by decide +kernel
theorem prd_X_call_338 : decode prb_X_call 338 = .ok (.iload 5, 2) := by decide +kernel
theorem prd_X_call_340 : decode prb_X_call 340 = .ok (.if_icmp .ge 42, 3) := by decide +kernel
theorem prd_X_call_382 : decode prb_X_call 382 = .ok (.aload_n 0, 1) := by decide +kernel
theorem prd_X_call_383 : decode prb_X_call 383 = .ok (.aload_n 0, 1) := by decide +kernel
theorem prd_X_call_384 : decode prb_X_call 384 = .ok (.iload 4, 2) := by decide +kernel
theorem prd_X_call_386 : decode prb_X_call 386 = .ok (.invokevirtual 310, 3) := by decide +kernel
theorem prd_X_call_389 : decode prb_X_call 389 = .ok (.iload 4, 2) := by decide +kernel
theorem prd_X_call_391 : decode prb_X_call 391 = .ok (.iload_n 2, 1) := by decide +kernel
theorem prd_X_call_392 : decode prb_X_call 392 = .ok (.iload 10, 2) := by decide +kernel
theorem prd_X_call_394 : decode prb_X_call 394 = .ok (.invokevirtual 341, 3) := by decide +kernel
theorem prd_X_call_397 : decode prb_X_call 397 = .ok (.aload_n 0, 1) := by decide +kernel
theorem prd_X_call_398 : decode prb_X_call 398 = .ok (.iload 7, 2) := by decide +kernel
theorem prd_X_call_400 : decode prb_X_call 400 = .ok (.putfield 316, 3) := by decide +kernel
theorem prd_X_call_403 : decode prb_X_call 403 = .ok (.aload_n 0, 1) := by decide +kernel
theorem prd_X_call_404 : decode prb_X_call 404 = .ok (.iload 8, 2) := by decide +kernel
theorem prd_X_call_406 : decode prb_X_call 406 = .ok (.putfield 319, 3) := by decide +kernel
theorem prd_X_call_409 : decode prb_X_call 409 = .ok (.aload_n 0, 1) := by decide +kernel
theorem prd_X_call_410 : decode prb_X_call 410 = .ok (.iload 9, 2) := by decide +kernel
theorem prd_X_call_412 : decode prb_X_call 412 = .ok (.putfield 335, 3) := by decide +kernel
theorem prd_X_call_415 : decode prb_X_call 415 = .ok (.return_, 1) := by decide +kernel
theorem prd_X_call_343 : decode prb_X_call 343 = .ok (.aload_n 0, 1) := by decide +kernel
theorem prd_X_call_344 : decode prb_X_call 344 = .ok (.aload_n 0, 1) := by decide +kernel
theorem prd_X_call_345 : decode prb_X_call 345 = .ok (.getfield 53, 3) := by decide +kernel
theorem prd_X_call_348 : decode prb_X_call 348 = .ok (.iload 4, 2) := by decide +kernel
theorem prd_X_call_350 : decode prb_X_call 350 = .ok (.iconst 2, 1) := by decide +kernel
theorem prd_X_call_351 : decode prb_X_call 351 = .ok (.iadd, 1) := by decide +kernel
theorem prd_X_call_352 : decode prb_X_call 352 = .ok (.iload 11, 2) := by decide +kernel
theorem prd_X_call_354 : decode prb_X_call 354 = .ok (.iadd, 1) := by decide +kernel
theorem prd_X_call_355 : decode prb_X_call 355 = .ok (.iaload, 1) := by decide +kernel
theorem prd_X_call_356 : decode prb_X_call 356 = .ok (.aload_n 0, 1) := by decide +kernel
theorem prd_X_call_357 : decode prb_X_call 357 = .ok (.getfield 335, 3) := by decide +kernel
theorem prd_X_call_360 : decode prb_X_call 360 = .ok (.iconst 0, 1) := by decide +kernel
theorem prd_X_call_361 : decode prb_X_call 361 = .ok (.iload 10, 2) := by decide +kernel
theorem prd_X_call_363 : decode prb_X_call 363 = .ok (.invokevirtual 356, 3) := by decide +kernel
theorem prd_X_call_366 : decode prb_X_call 366 = .ok (.aload_n 0, 1) := by decide +kernel
theorem prd_X_call_367 : decode prb_X_call 367 = .ok (.dup, 1) := by decide +kernel
theorem prd_X_call_368 : decode prb_X_call 368 = .ok (.getfield 335, 3) := by decide +kernel
theorem prd_X_call_371 : decode prb_X_call 371 = .ok (.iconst 1, 1) := by decide +kernel
theorem prd_X_call_372 : decode prb_X_call 372 = .ok (.iadd, 1) := by decide +kernel
theorem prd_X_call_373 : decode prb_X_call 373 = .ok (.putfield 335, 3) := by decide +kernel
theorem prd_X_call_376 : decode prb_X_call 376 = .ok (.iinc 11 1, 3) := by decide +kernel
theorem prd_X_call_379 : decode prb_X_call 379 = .ok (.goto (-43), 3) := by decide +kernel
theorem prd_X_call_31 : decode prb_X_call 31 = .ok (.aload_n 0, 1) := by decide +kernel
theorem prd_X_call_32 : decode prb_X_call 32 = .ok (.aload_n 0, 1) := by decide +kernel
theorem prd_X_call_33 : decode prb_X_call 33 = .ok (.getfield 53, 3) := by decide +kernel
theorem prd_X_call_36 : decode prb_X_call 36 = .ok (.iload_n 3, 1) := by decide +kernel
theorem prd_X_call_37 : decode prb_X_call 37 = .ok (.iaload, 1) := by decide +kernel
theorem prd_X_call_38 : decode prb_X_call 38 = .ok (.aload_n 0, 1) := by decide +kernel
theorem prd_X_call_39 : decode prb_X_call 39 = .ok (.iload_n 1, 1) := by decide +kernel
theorem prd_X_call_40 : decode prb_X_call 40 = .ok (.invokevirtual 362, 3) := by decide +kernel
theorem prd_X_call_43 : decode prb_X_call 43 = .ok (.invokevirtual 365, 3) := by decide +kernel
theorem prd_X_call_46 : decode prb_X_call 46 = .ok (.istore 4, 2) := by decide +kernel
theorem prd_X_statement5_0 : decode prb_X_statement5 0 = .ok (.aload_n 0, 1) := by decide +kernel
theorem prd_X_statement5_1 : decode prb_X_statement5 1 = .ok (.getfield 148, 3) := by decide +kernel
theorem prd_X_statement5_4 : decode prb_X_statement5 4 = .ok (.sipush 249, 3) := by decide +kernel
theorem prd_X_statement5_7 : decode prb_X_statement5 7 = .ok (.if_icmp .ne 12, 3) := by decide +kernel
theorem prd_X_statement5_19 : decode prb_X_statement5 19 = .ok (.aload_n 0, 1) := by decide +kernel
theorem prd_X_statement5_20 : decode prb_X_statement5 20 = .ok (.getfield 148, 3) := by decide +kernel
theorem prd_X_statement5_23 : decode prb_X_statement5 23 = .ok (.istore 6, 2) := by decide +kernel
theorem prd_X_statement5_25 : decode prb_X_statement5 25 = .ok (.aload_n 0, 1) := by decide +kernel
theorem prd_X_statement5_26 : decode prb_X_statement5 26 = .ok (.dup, 1) := by decide +kernel
theorem prd_X_statement5_27 : decode prb_X_statement5 27 = .ok (.getfield 148, 3) := by decide +kernel
theorem prd_X_statement5_30 : decode prb_X_statement5 30 = .ok (.iconst 1, 1) := by decide +kernel
theorem prd_X_statement5_31 : decode prb_X_statement5 31 = .ok (.iadd, 1) := by decide +kernel
theorem prd_X_statement5_32 : decode prb_X_statement5 32 = .ok (.putfield 148, 3) := by decide +kernel
theorem prd_X_statement5_35 : decode prb_X_statement5 35 = .ok (.aload_n 0, 1) := by decide +kernel
theorem prd_X_statement5_36 : decode prb_X_statement5 36 = .ok (.getfield 68, 3) := by decide +kernel
theorem prd_X_statement5_39 : decode prb_X_statement5 39 = .ok (.iload 6, 2) := by decide +kernel
theorem prd_X_statement5_41 : decode prb_X_statement5 41 = .ok (.iload_n 1, 1) := by decide +kernel
theorem prd_X_statement5_42 : decode prb_X_statement5 42 = .ok (.iastore, 1) := by decide +kernel
theorem prd_X_statement5_43 : decode prb_X_statement5 43 = .ok (.aload_n 0, 1) := by decide +kernel
theorem prd_X_statement5_44 : decode prb_X_statement5 44 = .ok (.getfield 71, 3) := by decide +kernel
theorem prd_X_statement5_47 : decode prb_X_statement5 47 = .ok (.iload 6, 2) := by decide +kernel
theorem prd_X_statement5_49 : decode prb_X_statement5 49 = .ok (.iload 4, 2) := by decide +kernel
theorem prd_X_statement5_51 : decode prb_X_statement5 51 = .ok (.iastore, 1) := by decide +kernel
theorem prd_X_statement5_52 : decode prb_X_statement5 52 = .ok (.aload_n 0, 1) := by decide +kernel
theorem prd_X_statement5_53 : decode prb_X_statement5 53 = .ok (.getfield 77, 3) := by decide +kernel
theorem prd_X_statement5_56 : decode prb_X_statement5 56 = .ok (.iload 6, 2) := by decide +kernel
theorem prd_X_statement5_58 : decode prb_X_statement5 58 = .ok (.aload_n 0, 1) := by decide +kernel
theorem prd_X_statement5_59 : decode prb_X_statement5 59 = .ok (.getfield 335, 3) := by decide +kernel
theorem prd_X_statement5_62 : decode prb_X_statement5 62 = .ok (.iastore, 1) := by decide +kernel
theorem prd_X_statement5_63 : decode prb_X_statement5 63 = .ok (.aload_n 0, 1) := by decide +kernel
theorem prd_X_statement5_64 : decode prb_X_statement5 64 = .ok (.getfield 80, 3) := by decide +kernel
theorem prd_X_statement5_67 : decode prb_X_statement5 67 = .ok (.iload 6, 2) := by decide +kernel
theorem prd_X_statement5_69 : decode prb_X_statement5 69 = .ok (.aload_n 0, 1) := by decide +kernel
theorem prd_X_statement5_70 : decode prb_X_statement5 70 = .ok (.getfield 338, 3) := by decide +kernel
theorem prd_X_statement5_73 : decode prb_X_statement5 73 = .ok (.iastore, 1) := by decide +kernel
theorem prd_X_statement5_74 : decode prb_X_statement5 74 = .ok (.aload_n 0, 1) := by decide +kernel
theorem prd_X_statement5_75 : decode prb_X_statement5 75 = .ok (.getfield 83, 3) := by decide +kernel
theorem prd_X_statement5_78 : decode prb_X_statement5 78 = .ok (.iload 6, 2) := by decide +kernel
theorem prd_X_statement5_80 : decode prb_X_statement5 80 = .ok (.aload_n 0, 1) := by decide +kernel
theorem prd_X_statement5_81 : decode prb_X_statement5 81 = .ok (.getfield 316, 3) := by decide +kernel
theorem prd_X_statement5_84 : decode prb_X_statement5 84 = .ok (.aload_n 0, 1) := by decide +kernel
theorem prd_X_statement5_85 : decode prb_X_statement5 85 = .ok (.getfield 319, 3) := by decide +kernel
theorem prd_X_statement5_88 : decode prb_X_statement5 88 = .ok (.isub, 1) := by decide +kernel
theorem prd_X_statement5_89 : decode prb_X_statement5 89 = .ok (.iastore, 1) := by decide +kernel
theorem prd_X_statement5_90 : decode prb_X_statement5 90 = .ok (.aload_n 0, 1) := by decide +kernel
theorem prd_X_statement5_91 : decode prb_X_statement5 91 = .ok (.getfield 319, 3) := by decide +kernel
theorem prd_X_statement5_94 : decode prb_X_statement5 94 = .ok (.istore 7, 2) := by decide +kernel
theorem prd_X_statement5_10 : decode prb_X_statement5 10 = .ok (.aload_n 0, 1) := by decide +kernel
theorem prd_X_statement5_11 : decode prb_X_statement5 11 = .ok (.bipush 11, 2) := by decide +kernel
theorem prd_X_statement5_13 : decode prb_X_statement5 13 = .ok (.iload_n 1, 1) := by decide +kernel
theorem prd_X_statement5_14 : decode prb_X_statement5 14 = .ok (.invokevirtual 325, 3) := by decide +kernel
theorem prd_X_statement5_17 : decode prb_X_statement5 17 = .ok (.pop, 1) := by decide +kernel
theorem prd_X_statement5_18 : decode prb_X_statement5 18 = .ok (.return_, 1) := by decide +kernel
theorem prd_X_statement5_96 : decode prb_X_statement5 96 = .ok (.iload 7, 2) := by decide +kernel
theorem prd_X_statement5_98 : decode prb_X_statement5 98 = .ok (.aload_n 0, 1) := by decide +kernel
theorem prd_X_statement5_99 : decode prb_X_statement5 99 = .ok (.getfield 316, 3) := by decide +kernel
theorem prd_X_statement5_102 : decode prb_X_statement5 102 = .ok (.if_icmp .ge 84, 3) := by decide +kernel
theorem prd_X_statement5_186 : decode prb_X_statement5 186 = .ok (.aload_n 0, 1) := by decide +kernel
theorem prd_X_statement5_187 : decode prb_X_statement5 187 = .ok (.getfield 47, 3) := by decide +kernel
theorem prd_X_statement5_190 : decode prb_X_statement5 190 = .ok (.iload_n 1, 1) := by decide +kernel
theorem prd_X_statement5_191 : decode prb_X_statement5 191 = .ok (.iaload, 1) := by decide +kernel
theorem prd_X_statement5_192 : decode prb_X_statement5 192 = .ok (.tableswitch 403 3 10 #[48, 133, 232, 256, 296, 306, 306, 392], 48) := by decide +kernel
theorem prd_X_statement5_240 : decode prb_X_statement5 240 = .ok (.aload_n 0, 1) := by decide +kernel
theorem prd_X_statement5_241 : decode prb_X_statement5 241 = .ok (.iload_n 1, 1) := by decide +kernel
theorem prd_X_statement5_242 : decode prb_X_statement5 242 = .ok (.iconst 1, 1) := by decide +kernel
theorem prd_X_statement5_243 : decode prb_X_statement5 243 = .ok (.iadd, 1) := by decide +kernel
theorem prd_X_statement5_244 : decode prb_X_statement5 244 = .ok (.iload 5, 2) := by decide +kernel
theorem prd_X_statement5_246 : decode prb_X_statement5 246 = .ok (.invokevirtual 347, 3) := by decide +kernel
theorem prd_X_statement5_249 : decode prb_X_statement5 249 = .ok (.ifCond .eq 428, 3) := by decide +kernel
theorem prd_X_statement5_677 : decode prb_X_statement5 677 = .ok (.aload_n 0, 1) := by decide +kernel
theorem prd_X_statement5_678 : decode prb_X_statement5 678 = .ok (.getfield 74, 3) := by decide +kernel
theorem prd_X_statement5_681 : decode prb_X_statement5 681 = .ok (.iload 6, 2) := by decide +kernel
theorem prd_X_statement5_683 : decode prb_X_statement5 683 = .ok (.aload_n 0, 1) := by decide +kernel
theorem prd_X_statement5_684 : decode prb_X_statement5 684 = .ok (.getfield 148, 3) := by decide +kernel
theorem prd_X_statement5_687 : decode prb_X_statement5 687 = .ok (.iastore, 1) := by decide +kernel
theorem prd_X_statement5_688 : decode prb_X_statement5 688 = .ok (.return_, 1) := by decide +kernel
theorem prd_X_statement5_252 : decode prb_X_statement5 252 = .ok (.aload_n 0, 1) := by decide +kernel
theorem prd_X_statement5_253 : decode prb_X_statement5 253 = .ok (.getfield 59, 3) := by decide +kernel
theorem prd_X_statement5_256 : decode prb_X_statement5 256 = .ok (.iload_n 1, 1) := by decide +kernel
theorem prd_X_statement5_257 : decode prb_X_statement5 257 = .ok (.iaload, 1) := by decide +kernel
theorem prd_X_statement5_258 : decode prb_X_statement5 258 = .ok (.iconst 2, 1) := by decide +kernel
theorem prd_X_statement5_259 : decode prb_X_statement5 259 = .ok (.if_icmp .eq 15, 3) := by decide +kernel
theorem prd_X_statement5_262 : decode prb_X_statement5 262 = .ok (.aload_n 0, 1) := by decide +kernel
theorem prd_X_statement5_263 : decode prb_X_statement5 263 = .ok (.aload_n 0, 1) := by decide +kernel
theorem prd_X_statement5_264 : decode prb_X_statement5 264 = .ok (.iload_n 1, 1) := by decide +kernel
theorem prd_X_statement5_265 : decode prb_X_statement5 265 = .ok (.invokevirtual 350, 3) := by decide +kernel
theorem prd_X_statement5_268 : decode prb_X_statement5 268 = .ok (.invokevirtual 353, 3) := by decide +kernel
theorem prd_X_statement5_271 : decode prb_X_statement5 271 = .ok (.ifCond .eq 406, 3) := by decide +kernel
theorem prd_X_statement5_325 : decode prb_X_statement5 325 = .ok (.aload_n 0, 1) := by decide +kernel
theorem prd_X_statement5_326 : decode prb_X_statement5 326 = .ok (.getfield 53, 3) := by decide +kernel
theorem prd_X_statement5_329 : decode prb_X_statement5 329 = .ok (.iload_n 1, 1) := by decide +kernel
theorem prd_X_statement5_330 : decode prb_X_statement5 330 = .ok (.iconst 2, 1) := by decide +kernel
theorem prd_X_statement5_331 : decode prb_X_statement5 331 = .ok (.iadd, 1) := by decide +kernel
theorem prd_X_statement5_332 : decode prb_X_statement5 332 = .ok (.iaload, 1) := by decide +kernel
theorem prd_X_statement5_333 : decode prb_X_statement5 333 = .ok (.istore 7, 2) := by decide +kernel
theorem prd_X_statement5_335 : decode prb_X_statement5 335 = .ok (.aload_n 0, 1) := by decide +kernel
theorem prd_X_statement5_336 : decode prb_X_statement5 336 = .ok (.iload_n 1, 1) := by decide +kernel
theorem prd_X_statement5_337 : decode prb_X_statement5 337 = .ok (.iconst 1, 1) := by decide +kernel
theorem prd_X_statement5_338 : decode prb_X_statement5 338 = .ok (.iadd, 1) := by decide +kernel
theorem prd_X_statement5_339 : decode prb_X_statement5 339 = .ok (.iload 5, 2) := by decide +kernel
theorem prd_X_statement5_341 : decode prb_X_statement5 341 = .ok (.invokevirtual 347, 3) := by decide +kernel
theorem prd_X_statement5_344 : decode prb_X_statement5 344 = .ok (.ifCond .eq 333, 3) := by decide +kernel
theorem prd_X_statement5_347 : decode prb_X_statement5 347 = .ok (.iload 7, 2) := by decide +kernel
theorem prd_X_statement5_349 : decode prb_X_statement5 349 = .ok (.iconst 1, 1) := by decide +kernel
theorem prd_X_statement5_350 : decode prb_X_statement5 350 = .ok (.if_icmp .lt 10, 3) := by decide +kernel
theorem prd_X_statement5_353 : decode prb_X_statement5 353 = .ok (.iload 7, 2) := by decide +kernel
theorem prd_X_statement5_355 : decode prb_X_statement5 355 = .ok (.bipush 64, 2) := by decide +kernel
theorem prd_X_statement5_357 : decode prb_X_statement5 357 = .ok (.if_icmp .le 15, 3) := by decide +kernel
theorem prd_X_statement5_424 : decode prb_X_statement5 424 = .ok (.aload_n 0, 1) := by decide +kernel
theorem prd_X_statement5_425 : decode prb_X_statement5 425 = .ok (.iload_n 1, 1) := by decide +kernel
theorem prd_X_statement5_426 : decode prb_X_statement5 426 = .ok (.iconst 1, 1) := by decide +kernel
theorem prd_X_statement5_427 : decode prb_X_statement5 427 = .ok (.iadd, 1) := by decide +kernel
theorem prd_X_statement5_428 : decode prb_X_statement5 428 = .ok (.iconst 0, 1) := by decide +kernel
theorem prd_X_statement5_429 : decode prb_X_statement5 429 = .ok (.invokevirtual 328, 3) := by decide +kernel
theorem prd_X_statement5_432 : decode prb_X_statement5 432 = .ok (.ifCond .eq 245, 3) := by decide +kernel
theorem prd_X_statement5_435 : decode prb_X_statement5 435 = .ok (.aload_n 0, 1) := by decide +kernel
theorem prd_X_statement5_436 : decode prb_X_statement5 436 = .ok (.aload_n 0, 1) := by decide +kernel
theorem prd_X_statement5_437 : decode prb_X_statement5 437 = .ok (.iload_n 1, 1) := by decide +kernel
theorem prd_X_statement5_438 : decode prb_X_statement5 438 = .ok (.invokevirtual 350, 3) := by decide +kernel
theorem prd_X_statement5_441 : decode prb_X_statement5 441 = .ok (.invokevirtual 353, 3) := by decide +kernel
theorem prd_X_statement5_444 : decode prb_X_statement5 444 = .ok (.pop, 1) := by decide +kernel
theorem prd_X_statement5_445 : decode prb_X_statement5 445 = .ok (.goto 232, 3) := by decide +kernel
theorem prd_X_statement5_448 : decode prb_X_statement5 448 = .ok (.aload_n 0, 1) := by decide +kernel
theorem prd_X_statement5_449 : decode prb_X_statement5 449 = .ok (.iload_n 1, 1) := by decide +kernel
theorem prd_X_statement5_450 : decode prb_X_statement5 450 = .ok (.iconst 1, 1) := by decide +kernel
theorem prd_X_statement5_451 : decode prb_X_statement5 451 = .ok (.iadd, 1) := by decide +kernel
theorem prd_X_statement5_452 : decode prb_X_statement5 452 = .ok (.iconst 1, 1) := by decide +kernel
theorem prd_X_statement5_453 : decode prb_X_statement5 453 = .ok (.invokevirtual 328, 3) := by decide +kernel
theorem prd_X_statement5_456 : decode prb_X_statement5 456 = .ok (.ifCond .eq 221, 3) := by decide +kernel
theorem prd_X_statement5_459 : decode prb_X_statement5 459 = .ok (.aload_n 0, 1) := by decide +kernel
theorem prd_X_statement5_460 : decode prb_X_statement5 460 = .ok (.aload_n 0, 1) := by decide +kernel
theorem prd_X_statement5_461 : decode prb_X_statement5 461 = .ok (.iload_n 1, 1) := by decide +kernel
theorem prd_X_statement5_462 : decode prb_X_statement5 462 = .ok (.invokevirtual 350, 3) := by decide +kernel
theorem prd_X_statement5_465 : decode prb_X_statement5 465 = .ok (.invokevirtual 353, 3) := by decide +kernel
theorem prd_X_statement5_468 : decode prb_X_statement5 468 = .ok (.ifCond .eq 209, 3) := by decide +kernel
theorem prd_X_statement5_471 : decode prb_X_statement5 471 = .ok (.aload_n 0, 1) := by decide +kernel
theorem prd_X_statement5_472 : decode prb_X_statement5 472 = .ok (.aload_n 0, 1) := by decide +kernel
theorem prd_X_statement5_473 : decode prb_X_statement5 473 = .ok (.aload_n 0, 1) := by decide +kernel
theorem prd_X_statement5_474 : decode prb_X_statement5 474 = .ok (.iload_n 1, 1) := by decide +kernel
theorem prd_X_statement5_475 : decode prb_X_statement5 475 = .ok (.invokevirtual 350, 3) := by decide +kernel
theorem prd_X_statement5_478 : decode prb_X_statement5 478 = .ok (.invokevirtual 307, 3) := by decide +kernel
theorem prd_X_statement5_481 : decode prb_X_statement5 481 = .ok (.invokevirtual 353, 3) := by decide +kernel
theorem prd_X_statement5_484 : decode prb_X_statement5 484 = .ok (.pop, 1) := by decide +kernel
theorem prd_X_statement5_485 : decode prb_X_statement5 485 = .ok (.goto 192, 3) := by decide +kernel
theorem prd_X_statement5_488 : decode prb_X_statement5 488 = .ok (.aload_n 0, 1) := by decide +kernel
theorem prd_X_statement5_489 : decode prb_X_statement5 489 = .ok (.iload_n 1, 1) := by decide +kernel
theorem prd_X_statement5_490 : decode prb_X_statement5 490 = .ok (.iload 6, 2) := by decide +kernel
theorem prd_X_statement5_492 : decode prb_X_statement5 492 = .ok (.invokevirtual 359, 3) := by decide +kernel
theorem prd_X_statement5_495 : decode prb_X_statement5 495 = .ok (.goto 182, 3) := by decide +kernel
theorem prd_X_statement5_498 : decode prb_X_statement5 498 = .ok (.aload_n 0, 1) := by decide +kernel
theorem prd_X_statement5_499 : decode prb_X_statement5 499 = .ok (.iload_n 1, 1) := by decide +kernel
theorem prd_X_statement5_500 : decode prb_X_statement5 500 = .ok (.iconst 1, 1) := by decide +kernel
theorem prd_X_statement5_501 : decode prb_X_statement5 501 = .ok (.iadd, 1) := by decide +kernel
theorem prd_X_statement5_502 : decode prb_X_statement5 502 = .ok (.invokevirtual 353, 3) := by decide +kernel
theorem prd_X_statement5_505 : decode prb_X_statement5 505 = .ok (.ifCond .eq 172, 3) := by decide +kernel
theorem prd_X_statement5_508 : decode prb_X_statement5 508 = .ok (.aload_n 0, 1) := by decide +kernel
theorem prd_X_statement5_509 : decode prb_X_statement5 509 = .ok (.dup, 1) := by decide +kernel
theorem prd_X_statement5_510 : decode prb_X_statement5 510 = .ok (.getfield 332, 3) := by decide +kernel
theorem prd_X_statement5_513 : decode prb_X_statement5 513 = .ok (.iconst 1, 1) := by decide +kernel
theorem prd_X_statement5_514 : decode prb_X_statement5 514 = .ok (.iadd, 1) := by decide +kernel
theorem prd_X_statement5_515 : decode prb_X_statement5 515 = .ok (.putfield 332, 3) := by decide +kernel
theorem prd_X_statement5_518 : decode prb_X_statement5 518 = .ok (.aload_n 0, 1) := by decide +kernel
theorem prd_X_statement5_519 : decode prb_X_statement5 519 = .ok (.aload_n 0, 1) := by decide +kernel
theorem prd_X_statement5_520 : decode prb_X_statement5 520 = .ok (.iload_n 1, 1) := by decide +kernel
theorem prd_X_statement5_521 : decode prb_X_statement5 521 = .ok (.invokevirtual 350, 3) := by decide +kernel
theorem prd_X_statement5_524 : decode prb_X_statement5 524 = .ok (.iload_n 3, 1) := by decide +kernel
theorem prd_X_statement5_525 : decode prb_X_statement5 525 = .ok (.iload 6, 2) := by decide +kernel
theorem prd_X_statement5_527 : decode prb_X_statement5 527 = .ok (.aload_n 0, 1) := by decide +kernel
theorem prd_X_statement5_528 : decode prb_X_statement5 528 = .ok (.getfield 332, 3) := by decide +kernel
theorem prd_X_statement5_531 : decode prb_X_statement5 531 = .ok (.invokevirtual 341, 3) := by decide +kernel
theorem prd_X_statement5_534 : decode prb_X_statement5 534 = .ok (.aload_n 0, 1) := by decide +kernel
theorem prd_X_statement5_535 : decode prb_X_statement5 535 = .ok (.aload_n 0, 1) := by decide +kernel
theorem prd_X_statement5_536 : decode prb_X_statement5 536 = .ok (.iload_n 1, 1) := by decide +kernel
theorem prd_X_statement5_537 : decode prb_X_statement5 537 = .ok (.invokevirtual 350, 3) := by decide +kernel
theorem prd_X_statement5_540 : decode prb_X_statement5 540 = .ok (.invokevirtual 307, 3) := by decide +kernel
theorem prd_X_statement5_543 : decode prb_X_statement5 543 = .ok (.aload_n 0, 1) := by decide +kernel
theorem prd_X_statement5_544 : decode prb_X_statement5 544 = .ok (.iload_n 1, 1) := by decide +kernel
theorem prd_X_statement5_545 : decode prb_X_statement5 545 = .ok (.invokevirtual 307, 3) := by decide +kernel
theorem prd_X_statement5_548 : decode prb_X_statement5 548 = .ok (.if_icmp .ge 129, 3) := by decide +kernel
theorem prd_X_statement5_551 : decode prb_X_statement5 551 = .ok (.aload_n 0, 1) := by decide +kernel
theorem prd_X_statement5_552 : decode prb_X_statement5 552 = .ok (.dup, 1) := by decide +kernel
theorem prd_X_statement5_553 : decode prb_X_statement5 553 = .ok (.getfield 332, 3) := by decide +kernel
theorem prd_X_statement5_556 : decode prb_X_statement5 556 = .ok (.iconst 1, 1) := by decide +kernel
theorem prd_X_statement5_557 : decode prb_X_statement5 557 = .ok (.iadd, 1) := by decide +kernel
theorem prd_X_statement5_558 : decode prb_X_statement5 558 = .ok (.putfield 332, 3) := by decide +kernel
theorem prd_X_statement5_561 : decode prb_X_statement5 561 = .ok (.aload_n 0, 1) := by decide +kernel
theorem prd_X_statement5_562 : decode prb_X_statement5 562 = .ok (.aload_n 0, 1) := by decide +kernel
theorem prd_X_statement5_563 : decode prb_X_statement5 563 = .ok (.aload_n 0, 1) := by decide +kernel
theorem prd_X_statement5_564 : decode prb_X_statement5 564 = .ok (.iload_n 1, 1) := by decide +kernel
theorem prd_X_statement5_565 : decode prb_X_statement5 565 = .ok (.invokevirtual 350, 3) := by decide +kernel
theorem prd_X_statement5_568 : decode prb_X_statement5 568 = .ok (.invokevirtual 307, 3) := by decide +kernel
theorem prd_X_statement5_571 : decode prb_X_statement5 571 = .ok (.iload_n 3, 1) := by decide +kernel
theorem prd_X_statement5_572 : decode prb_X_statement5 572 = .ok (.iload 6, 2) := by decide +kernel
theorem prd_X_statement5_574 : decode prb_X_statement5 574 = .ok (.aload_n 0, 1) := by decide +kernel
theorem prd_X_statement5_575 : decode prb_X_statement5 575 = .ok (.getfield 332, 3) := by decide +kernel
theorem prd_X_statement5_578 : decode prb_X_statement5 578 = .ok (.invokevirtual 341, 3) := by decide +kernel
theorem prd_X_statement5_581 : decode prb_X_statement5 581 = .ok (.goto 96, 3) := by decide +kernel
theorem prd_X_statement5_584 : decode prb_X_statement5 584 = .ok (.aload_n 0, 1) := by decide +kernel
theorem prd_X_statement5_585 : decode prb_X_statement5 585 = .ok (.iload_n 1, 1) := by decide +kernel
theorem prd_X_statement5_586 : decode prb_X_statement5 586 = .ok (.iconst 1, 1) := by decide +kernel
theorem prd_X_statement5_587 : decode prb_X_statement5 587 = .ok (.iadd, 1) := by decide +kernel
theorem prd_X_statement5_588 : decode prb_X_statement5 588 = .ok (.invokevirtual 353, 3) := by decide +kernel
theorem prd_X_statement5_591 : decode prb_X_statement5 591 = .ok (.pop, 1) := by decide +kernel
theorem prd_X_statement5_592 : decode prb_X_statement5 592 = .ok (.goto 85, 3) := by decide +kernel
theorem prd_X_statement5_595 : decode prb_X_statement5 595 = .ok (.aload_n 0, 1) := by decide +kernel
theorem prd_X_statement5_596 : decode prb_X_statement5 596 = .ok (.iload_n 3, 1) := by decide +kernel
theorem prd_X_statement5_597 : decode prb_X_statement5 597 = .ok (.invokevirtual 310, 3) := by decide +kernel
theorem prd_X_statement5_600 : decode prb_X_statement5 600 = .ok (.iload_n 2, 1) := by decide +kernel
theorem prd_X_statement5_601 : decode prb_X_statement5 601 = .ok (.if_icmp .ne 16, 3) := by decide +kernel
theorem prd_X_statement5_604 : decode prb_X_statement5 604 = .ok (.aload_n 0, 1) := by decide +kernel
theorem prd_X_statement5_605 : decode prb_X_statement5 605 = .ok (.iload_n 2, 1) := by decide +kernel
theorem prd_X_statement5_606 : decode prb_X_statement5 606 = .ok (.invokevirtual 313, 3) := by decide +kernel
theorem prd_X_statement5_609 : decode prb_X_statement5 609 = .ok (.iload_n 1, 1) := by decide +kernel
theorem prd_X_statement5_610 : decode prb_X_statement5 610 = .ok (.if_icmp .ne 7, 3) := by decide +kernel
theorem prd_X_statement5_613 : decode prb_X_statement5 613 = .ok (.iconst 1, 1) := by decide +kernel
theorem prd_X_statement5_614 : decode prb_X_statement5 614 = .ok (.goto 4, 3) := by decide +kernel
theorem prd_X_statement5_618 : decode prb_X_statement5 618 = .ok (.istore 8, 2) := by decide +kernel
theorem prd_X_statement5_620 : decode prb_X_statement5 620 = .ok (.aload_n 0, 1) := by decide +kernel
theorem prd_X_statement5_621 : decode prb_X_statement5 621 = .ok (.iload_n 3, 1) := by decide +kernel
theorem prd_X_statement5_622 : decode prb_X_statement5 622 = .ok (.invokevirtual 307, 3) := by decide +kernel
theorem prd_X_statement5_625 : decode prb_X_statement5 625 = .ok (.aload_n 0, 1) := by decide +kernel
theorem prd_X_statement5_626 : decode prb_X_statement5 626 = .ok (.getfield 160, 3) := by decide +kernel
theorem prd_X_statement5_629 : decode prb_X_statement5 629 = .ok (.if_icmp .ne 7, 3) := by decide +kernel
theorem prd_X_statement5_636 : decode prb_X_statement5 636 = .ok (.iconst 0, 1) := by decide +kernel
theorem prd_X_statement5_637 : decode prb_X_statement5 637 = .ok (.istore 9, 2) := by decide +kernel
theorem prd_X_statement5_639 : decode prb_X_statement5 639 = .ok (.iload 8, 2) := by decide +kernel
theorem prd_X_statement5_641 : decode prb_X_statement5 641 = .ok (.ifCond .ne 13, 3) := by decide +kernel
theorem prd_X_statement5_644 : decode prb_X_statement5 644 = .ok (.aload_n 0, 1) := by decide +kernel
theorem prd_X_statement5_645 : decode prb_X_statement5 645 = .ok (.bipush 6, 2) := by decide +kernel
theorem prd_X_statement5_647 : decode prb_X_statement5 647 = .ok (.iload_n 1, 1) := by decide +kernel
theorem prd_X_statement5_648 : decode prb_X_statement5 648 = .ok (.invokevirtual 325, 3) := by decide +kernel
theorem prd_X_statement5_651 : decode prb_X_statement5 651 = .ok (.ifCond .eq 26, 3) := by decide +kernel
theorem prd_X_statement5_632 : decode prb_X_statement5 632 = .ok (.iconst 1, 1) := by decide +kernel
theorem prd_X_statement5_633 : decode prb_X_statement5 633 = .ok (.goto 4, 3) := by decide +kernel
theorem prd_X_statement5_105 : decode prb_X_statement5 105 = .ok (.aload_n 0, 1) := by decide +kernel
theorem prd_X_statement5_106 : decode prb_X_statement5 106 = .ok (.getfield 86, 3) := by decide +kernel
theorem prd_X_statement5_109 : decode prb_X_statement5 109 = .ok (.bipush 40, 2) := by decide +kernel
theorem prd_X_statement5_111 : decode prb_X_statement5 111 = .ok (.iload 6, 2) := by decide +kernel
theorem prd_X_statement5_113 : decode prb_X_statement5 113 = .ok (.imul, 1) := by decide +kernel
theorem prd_X_statement5_114 : decode prb_X_statement5 114 = .ok (.iload 7, 2) := by decide +kernel
theorem prd_X_statement5_116 : decode prb_X_statement5 116 = .ok (.iadd, 1) := by decide +kernel
theorem prd_X_statement5_117 : decode prb_X_statement5 117 = .ok (.aload_n 0, 1) := by decide +kernel
theorem prd_X_statement5_118 : decode prb_X_statement5 118 = .ok (.getfield 319, 3) := by decide +kernel
theorem prd_X_statement5_121 : decode prb_X_statement5 121 = .ok (.isub, 1) := by decide +kernel
theorem prd_X_statement5_122 : decode prb_X_statement5 122 = .ok (.aload_n 0, 1) := by decide +kernel
theorem prd_X_statement5_123 : decode prb_X_statement5 123 = .ok (.getfield 95, 3) := by decide +kernel
theorem prd_X_statement5_126 : decode prb_X_statement5 126 = .ok (.iload 7, 2) := by decide +kernel
theorem prd_X_statement5_128 : decode prb_X_statement5 128 = .ok (.iaload, 1) := by decide +kernel
theorem prd_X_statement5_129 : decode prb_X_statement5 129 = .ok (.iastore, 1) := by decide +kernel
theorem prd_X_statement5_130 : decode prb_X_statement5 130 = .ok (.aload_n 0, 1) := by decide +kernel
theorem prd_X_statement5_131 : decode prb_X_statement5 131 = .ok (.getfield 89, 3) := by decide +kernel
theorem prd_X_statement5_134 : decode prb_X_statement5 134 = .ok (.bipush 40, 2) := by decide +kernel
theorem prd_X_statement5_136 : decode prb_X_statement5 136 = .ok (.iload 6, 2) := by decide +kernel
theorem prd_X_statement5_138 : decode prb_X_statement5 138 = .ok (.imul, 1) := by decide +kernel
theorem prd_X_statement5_139 : decode prb_X_statement5 139 = .ok (.iload 7, 2) := by decide +kernel
theorem prd_X_statement5_141 : decode prb_X_statement5 141 = .ok (.iadd, 1) := by decide +kernel
theorem prd_X_statement5_142 : decode prb_X_statement5 142 = .ok (.aload_n 0, 1) := by decide +kernel
theorem prd_X_statement5_143 : decode prb_X_statement5 143 = .ok (.getfield 319, 3) := by decide +kernel
theorem prd_X_statement5_146 : decode prb_X_statement5 146 = .ok (.isub, 1) := by decide +kernel
theorem prd_X_statement5_147 : decode prb_X_statement5 147 = .ok (.aload_n 0, 1) := by decide +kernel
theorem prd_X_statement5_148 : decode prb_X_statement5 148 = .ok (.getfield 98, 3) := by decide +kernel
theorem prd_X_statement5_151 : decode prb_X_statement5 151 = .ok (.iload 7, 2) := by decide +kernel
theorem prd_X_statement5_153 : decode prb_X_statement5 153 = .ok (.iaload, 1) := by decide +kernel
theorem prd_X_statement5_154 : decode prb_X_statement5 154 = .ok (.iastore, 1) := by decide +kernel
theorem prd_X_statement5_155 : decode prb_X_statement5 155 = .ok (.aload_n 0, 1) := by decide +kernel
theorem prd_X_statement5_156 : decode prb_X_statement5 156 = .ok (.getfield 92, 3) := by decide +kernel
theorem prd_X_statement5_159 : decode prb_X_statement5 159 = .ok (.bipush 40, 2) := by decide +kernel
theorem prd_X_statement5_161 : decode prb_X_statement5 161 = .ok (.iload 6, 2) := by decide +kernel
theorem prd_X_statement5_163 : decode prb_X_statement5 163 = .ok (.imul, 1) := by decide +kernel
theorem prd_X_statement5_164 : decode prb_X_statement5 164 = .ok (.iload 7, 2) := by decide +kernel
theorem prd_X_statement5_166 : decode prb_X_statement5 166 = .ok (.iadd, 1) := by decide +kernel
theorem prd_X_statement5_167 : decode prb_X_statement5 167 = .ok (.aload_n 0, 1) := by decide +kernel
theorem prd_X_statement5_168 : decode prb_X_statement5 168 = .ok (.getfield 319, 3) := by decide +kernel
theorem prd_X_statement5_171 : decode prb_X_statement5 171 = .ok (.isub, 1) := by decide +kernel
theorem prd_X_statement5_172 : decode prb_X_statement5 172 = .ok (.aload_n 0, 1) := by decide +kernel
theorem prd_X_statement5_173 : decode prb_X_statement5 173 = .ok (.getfield 101, 3) := by decide +kernel
theorem prd_X_statement5_176 : decode prb_X_statement5 176 = .ok (.iload 7, 2) := by decide +kernel
theorem prd_X_statement5_178 : decode prb_X_statement5 178 = .ok (.iaload, 1) := by decide +kernel
theorem prd_X_statement5_179 : decode prb_X_statement5 179 = .ok (.iastore, 1) := by decide +kernel
theorem prd_X_statement5_180 : decode prb_X_statement5 180 = .ok (.iinc 7 1, 3) := by decide +kernel
theorem prd_X_statement5_183 : decode prb_X_statement5 183 = .ok (.goto (-87), 3) := by decide +kernel
theorem prd_X_statement5_654 : decode prb_X_statement5 654 = .ok (.iload 9, 2) := by decide +kernel
theorem prd_X_statement5_656 : decode prb_X_statement5 656 = .ok (.ifCond .eq 13, 3) := by decide +kernel
theorem prd_X_statement5_669 : decode prb_X_statement5 669 = .ok (.aload_n 0, 1) := by decide +kernel
theorem prd_X_statement5_670 : decode prb_X_statement5 670 = .ok (.iload_n 1, 1) := by decide +kernel
theorem prd_X_statement5_671 : decode prb_X_statement5 671 = .ok (.iconst 1, 1) := by decide +kernel
theorem prd_X_statement5_672 : decode prb_X_statement5 672 = .ok (.iadd, 1) := by decide +kernel
theorem prd_X_statement5_673 : decode prb_X_statement5 673 = .ok (.invokevirtual 353, 3) := by decide +kernel
theorem prd_X_statement5_676 : decode prb_X_statement5 676 = .ok (.pop, 1) := by decide +kernel
theorem prd_X_statement5_659 : decode prb_X_statement5 659 = .ok (.aload_n 0, 1) := by decide +kernel
theorem prd_X_statement5_660 : decode prb_X_statement5 660 = .ok (.bipush 7, 2) := by decide +kernel
theorem prd_X_statement5_662 : decode prb_X_statement5 662 = .ok (.iload_n 1, 1) := by decide +kernel
theorem prd_X_statement5_663 : decode prb_X_statement5 663 = .ok (.invokevirtual 325, 3) := by decide +kernel
theorem prd_X_statement5_666 : decode prb_X_statement5 666 = .ok (.ifCond .eq 11, 3) := by decide +kernel
theorem prd_X_statement5_617 : decode prb_X_statement5 617 = .ok (.iconst 0, 1) := by decide +kernel
theorem prd_X_statement5_372 : decode prb_X_statement5 372 = .ok (.aload_n 0, 1) := by decide +kernel
theorem prd_X_statement5_373 : decode prb_X_statement5 373 = .ok (.getfield 338, 3) := by decide +kernel
theorem prd_X_statement5_376 : decode prb_X_statement5 376 = .ok (.bipush 6, 2) := by decide +kernel
theorem prd_X_statement5_378 : decode prb_X_statement5 378 = .ok (.if_icmp .lt 13, 3) := by decide +kernel
theorem prd_X_statement5_381 : decode prb_X_statement5 381 = .ok (.aload_n 0, 1) := by decide +kernel
theorem prd_X_statement5_382 : decode prb_X_statement5 382 = .ok (.bipush 13, 2) := by decide +kernel
theorem prd_X_statement5_384 : decode prb_X_statement5 384 = .ok (.iload_n 1, 1) := by decide +kernel
theorem prd_X_statement5_385 : decode prb_X_statement5 385 = .ok (.invokevirtual 325, 3) := by decide +kernel
theorem prd_X_statement5_388 : decode prb_X_statement5 388 = .ok (.ifCond .eq 289, 3) := by decide +kernel
theorem prd_X_statement5_391 : decode prb_X_statement5 391 = .ok (.aload_n 0, 1) := by decide +kernel
theorem prd_X_statement5_392 : decode prb_X_statement5 392 = .ok (.aload_n 0, 1) := by decide +kernel
theorem prd_X_statement5_393 : decode prb_X_statement5 393 = .ok (.getfield 53, 3) := by decide +kernel
theorem prd_X_statement5_396 : decode prb_X_statement5 396 = .ok (.iload_n 1, 1) := by decide +kernel
theorem prd_X_statement5_397 : decode prb_X_statement5 397 = .ok (.iconst 1, 1) := by decide +kernel
theorem prd_X_statement5_398 : decode prb_X_statement5 398 = .ok (.iadd, 1) := by decide +kernel
theorem prd_X_statement5_399 : decode prb_X_statement5 399 = .ok (.iaload, 1) := by decide +kernel
theorem prd_X_statement5_400 : decode prb_X_statement5 400 = .ok (.aload_n 0, 1) := by decide +kernel
theorem prd_X_statement5_401 : decode prb_X_statement5 401 = .ok (.getfield 338, 3) := by decide +kernel
theorem prd_X_statement5_404 : decode prb_X_statement5 404 = .ok (.iload 7, 2) := by decide +kernel
theorem prd_X_statement5_406 : decode prb_X_statement5 406 = .ok (.iload 5, 2) := by decide +kernel
theorem prd_X_statement5_408 : decode prb_X_statement5 408 = .ok (.invokevirtual 356, 3) := by decide +kernel
theorem prd_X_statement5_411 : decode prb_X_statement5 411 = .ok (.aload_n 0, 1) := by decide +kernel
theorem prd_X_statement5_412 : decode prb_X_statement5 412 = .ok (.dup, 1) := by decide +kernel
theorem prd_X_statement5_413 : decode prb_X_statement5 413 = .ok (.getfield 338, 3) := by decide +kernel
theorem prd_X_statement5_416 : decode prb_X_statement5 416 = .ok (.iconst 1, 1) := by decide +kernel
theorem prd_X_statement5_417 : decode prb_X_statement5 417 = .ok (.iadd, 1) := by decide +kernel
theorem prd_X_statement5_418 : decode prb_X_statement5 418 = .ok (.putfield 338, 3) := by decide +kernel
theorem prd_X_statement5_421 : decode prb_X_statement5 421 = .ok (.goto 256, 3) := by decide +kernel
theorem prd_X_statement5_360 : decode prb_X_statement5 360 = .ok (.aload_n 0, 1) := by decide +kernel
theorem prd_X_statement5_361 : decode prb_X_statement5 361 = .ok (.bipush 9, 2) := by decide +kernel
theorem prd_X_statement5_363 : decode prb_X_statement5 363 = .ok (.iload_n 1, 1) := by decide +kernel
theorem prd_X_statement5_364 : decode prb_X_statement5 364 = .ok (.iconst 2, 1) := by decide +kernel
theorem prd_X_statement5_365 : decode prb_X_statement5 365 = .ok (.iadd, 1) := by decide +kernel
theorem prd_X_statement5_366 : decode prb_X_statement5 366 = .ok (.invokevirtual 325, 3) := by decide +kernel
theorem prd_X_statement5_369 : decode prb_X_statement5 369 = .ok (.ifCond .eq 308, 3) := by decide +kernel
theorem prd_X_statement5_274 : decode prb_X_statement5 274 = .ok (.aload_n 0, 1) := by decide +kernel
theorem prd_X_statement5_275 : decode prb_X_statement5 275 = .ok (.getfield 335, 3) := by decide +kernel
theorem prd_X_statement5_278 : decode prb_X_statement5 278 = .ok (.bipush 12, 2) := by decide +kernel
theorem prd_X_statement5_280 : decode prb_X_statement5 280 = .ok (.if_icmp .lt 13, 3) := by decide +kernel
theorem prd_X_statement5_283 : decode prb_X_statement5 283 = .ok (.aload_n 0, 1) := by decide +kernel
theorem prd_X_statement5_284 : decode prb_X_statement5 284 = .ok (.bipush 10, 2) := by decide +kernel
theorem prd_X_statement5_286 : decode prb_X_statement5 286 = .ok (.iload_n 1, 1) := by decide +kernel
theorem prd_X_statement5_287 : decode prb_X_statement5 287 = .ok (.invokevirtual 325, 3) := by decide +kernel
theorem prd_X_statement5_290 : decode prb_X_statement5 290 = .ok (.ifCond .eq 387, 3) := by decide +kernel
theorem prd_X_statement5_293 : decode prb_X_statement5 293 = .ok (.aload_n 0, 1) := by decide +kernel
theorem prd_X_statement5_294 : decode prb_X_statement5 294 = .ok (.aload_n 0, 1) := by decide +kernel
theorem prd_X_statement5_295 : decode prb_X_statement5 295 = .ok (.getfield 53, 3) := by decide +kernel
theorem prd_X_statement5_298 : decode prb_X_statement5 298 = .ok (.iload_n 1, 1) := by decide +kernel
theorem prd_X_statement5_299 : decode prb_X_statement5 299 = .ok (.iconst 1, 1) := by decide +kernel
theorem prd_X_statement5_300 : decode prb_X_statement5 300 = .ok (.iadd, 1) := by decide +kernel
theorem prd_X_statement5_301 : decode prb_X_statement5 301 = .ok (.iaload, 1) := by decide +kernel
theorem prd_X_statement5_302 : decode prb_X_statement5 302 = .ok (.aload_n 0, 1) := by decide +kernel
theorem prd_X_statement5_303 : decode prb_X_statement5 303 = .ok (.getfield 335, 3) := by decide +kernel
theorem prd_X_statement5_306 : decode prb_X_statement5 306 = .ok (.iconst 0, 1) := by decide +kernel
theorem prd_X_statement5_307 : decode prb_X_statement5 307 = .ok (.iload 5, 2) := by decide +kernel
theorem prd_X_statement5_309 : decode prb_X_statement5 309 = .ok (.invokevirtual 356, 3) := by decide +kernel
theorem prd_X_statement5_312 : decode prb_X_statement5 312 = .ok (.aload_n 0, 1) := by decide +kernel
theorem prd_X_statement5_313 : decode prb_X_statement5 313 = .ok (.dup, 1) := by decide +kernel
theorem prd_X_statement5_314 : decode prb_X_statement5 314 = .ok (.getfield 335, 3) := by decide +kernel
theorem prd_X_statement5_317 : decode prb_X_statement5 317 = .ok (.iconst 1, 1) := by decide +kernel
theorem prd_X_statement5_318 : decode prb_X_statement5 318 = .ok (.iadd, 1) := by decide +kernel
theorem prd_X_statement5_319 : decode prb_X_statement5 319 = .ok (.putfield 335, 3) := by decide +kernel
theorem prd_X_statement5_322 : decode prb_X_statement5 322 = .ok (.goto 355, 3) := by decide +kernel
theorem prd_X_block4_0 : decode prb_X_block4 0 = .ok (.aload_n 0, 1) := by decide +kernel
theorem prd_X_block4_1 : decode prb_X_block4 1 = .ok (.getfield 316, 3) := by decide +kernel
theorem prd_X_block4_4 : decode prb_X_block4 4 = .ok (.istore 5, 2) := by decide +kernel
theorem prd_X_block4_6 : decode prb_X_block4 6 = .ok (.aload_n 0, 1) := by decide +kernel
theorem prd_X_block4_7 : decode prb_X_block4 7 = .ok (.getfield 335, 3) := by decide +kernel
theorem prd_X_block4_10 : decode prb_X_block4 10 = .ok (.istore 6, 2) := by decide +kernel
theorem prd_X_block4_12 : decode prb_X_block4 12 = .ok (.aload_n 0, 1) := by decide +kernel
theorem prd_X_block4_13 : decode prb_X_block4 13 = .ok (.getfield 338, 3) := by decide +kernel
theorem prd_X_block4_16 : decode prb_X_block4 16 = .ok (.istore 7, 2) := by decide +kernel
theorem prd_X_block4_18 : decode prb_X_block4 18 = .ok (.iload_n 1, 1) := by decide +kernel
theorem prd_X_block4_19 : decode prb_X_block4 19 = .ok (.iconst 1, 1) := by decide +kernel
theorem prd_X_block4_20 : decode prb_X_block4 20 = .ok (.iadd, 1) := by decide +kernel
theorem prd_X_block4_21 : decode prb_X_block4 21 = .ok (.istore 8, 2) := by decide +kernel
theorem prd_X_block4_23 : decode prb_X_block4 23 = .ok (.iload 8, 2) := by decide +kernel
theorem prd_X_block4_25 : decode prb_X_block4 25 = .ok (.aload_n 0, 1) := by decide +kernel
theorem prd_X_block4_26 : decode prb_X_block4 26 = .ok (.iload_n 1, 1) := by decide +kernel
theorem prd_X_block4_27 : decode prb_X_block4 27 = .ok (.invokevirtual 307, 3) := by decide +kernel
theorem prd_X_block4_30 : decode prb_X_block4 30 = .ok (.if_icmp .ge 32, 3) := by decide +kernel
theorem prd_X_block4_62 : decode prb_X_block4 62 = .ok (.aload_n 0, 1) := by decide +kernel
theorem prd_X_block4_63 : decode prb_X_block4 63 = .ok (.iload 5, 2) := by decide +kernel
theorem prd_X_block4_65 : decode prb_X_block4 65 = .ok (.putfield 316, 3) := by decide +kernel
theorem prd_X_block4_68 : decode prb_X_block4 68 = .ok (.aload_n 0, 1) := by decide +kernel
theorem prd_X_block4_69 : decode prb_X_block4 69 = .ok (.iload 6, 2) := by decide +kernel
theorem prd_X_block4_71 : decode prb_X_block4 71 = .ok (.putfield 335, 3) := by decide +kernel
theorem prd_X_block4_74 : decode prb_X_block4 74 = .ok (.aload_n 0, 1) := by decide +kernel
theorem prd_X_block4_75 : decode prb_X_block4 75 = .ok (.iload 7, 2) := by decide +kernel
theorem prd_X_block4_77 : decode prb_X_block4 77 = .ok (.putfield 338, 3) := by decide +kernel
theorem prd_X_block4_80 : decode prb_X_block4 80 = .ok (.return_, 1) := by decide +kernel
theorem prd_X_block4_33 : decode prb_X_block4 33 = .ok (.aload_n 0, 1) := by decide +kernel
theorem prd_X_block4_34 : decode prb_X_block4 34 = .ok (.getfield 298, 3) := by decide +kernel
theorem prd_X_block4_37 : decode prb_X_block4 37 = .ok (.ifCond .ne 25, 3) := by decide +kernel
theorem prd_X_block4_40 : decode prb_X_block4 40 = .ok (.aload_n 0, 1) := by decide +kernel
theorem prd_X_block4_41 : decode prb_X_block4 41 = .ok (.iload 8, 2) := by decide +kernel
theorem prd_X_block4_43 : decode prb_X_block4 43 = .ok (.iload_n 1, 1) := by decide +kernel
theorem prd_X_block4_44 : decode prb_X_block4 44 = .ok (.iload_n 2, 1) := by decide +kernel
theorem prd_X_block4_45 : decode prb_X_block4 45 = .ok (.iload_n 3, 1) := by decide +kernel
theorem prd_X_block4_46 : decode prb_X_block4 46 = .ok (.iload 4, 2) := by decide +kernel
theorem prd_X_block4_48 : decode prb_X_block4 48 = .ok (.invokevirtual 344, 3) := by decide +kernel
theorem prd_X_block4_51 : decode prb_X_block4 51 = .ok (.aload_n 0, 1) := by decide +kernel
theorem prd_X_block4_52 : decode prb_X_block4 52 = .ok (.iload 8, 2) := by decide +kernel
theorem prd_X_block4_54 : decode prb_X_block4 54 = .ok (.invokevirtual 307, 3) := by decide +kernel
theorem prd_X_block4_57 : decode prb_X_block4 57 = .ok (.istore 8, 2) := by decide +kernel
theorem prd_X_block4_59 : decode prb_X_block4 59 = .ok (.goto (-36), 3) := by decide +kernel
theorem prd_X_layout_0 : decode prb_X_layout 0 = .ok (.iconst (-1), 1) := by decide +kernel
theorem prd_X_layout_1 : decode prb_X_layout 1 = .ok (.istore_n 1, 1) := by decide +kernel
theorem prd_X_layout_2 : decode prb_X_layout 2 = .ok (.iconst 1, 1) := by decide +kernel
theorem prd_X_layout_3 : decode prb_X_layout 3 = .ok (.istore_n 2, 1) := by decide +kernel
theorem prd_X_layout_4 : decode prb_X_layout 4 = .ok (.iload_n 2, 1) := by decide +kernel
theorem prd_X_layout_5 : decode prb_X_layout 5 = .ok (.aload_n 0, 1) := by decide +kernel
theorem prd_X_layout_6 : decode prb_X_layout 6 = .ok (.getfield 160, 3) := by decide +kernel
theorem prd_X_layout_9 : decode prb_X_layout 9 = .ok (.if_icmp .ge 14, 3) := by decide +kernel
theorem prd_X_layout_23 : decode prb_X_layout 23 = .ok (.aload_n 0, 1) := by decide +kernel
theorem prd_X_layout_24 : decode prb_X_layout 24 = .ok (.iconst 0, 1) := by decide +kernel
theorem prd_X_layout_25 : decode prb_X_layout 25 = .ok (.putfield 148, 3) := by decide +kernel
theorem prd_X_layout_28 : decode prb_X_layout 28 = .ok (.aload_n 0, 1) := by decide +kernel
theorem prd_X_layout_29 : decode prb_X_layout 29 = .ok (.iconst 0, 1) := by decide +kernel
theorem prd_X_layout_30 : decode prb_X_layout 30 = .ok (.putfield 316, 3) := by decide +kernel
theorem prd_X_layout_33 : decode prb_X_layout 33 = .ok (.aload_n 0, 1) := by decide +kernel
theorem prd_X_layout_34 : decode prb_X_layout 34 = .ok (.iconst 0, 1) := by decide +kernel
theorem prd_X_layout_35 : decode prb_X_layout 35 = .ok (.putfield 319, 3) := by decide +kernel
theorem prd_X_layout_38 : decode prb_X_layout 38 = .ok (.aload_n 0, 1) := by decide +kernel
theorem prd_X_layout_39 : decode prb_X_layout 39 = .ok (.iconst 0, 1) := by decide +kernel
theorem prd_X_layout_40 : decode prb_X_layout 40 = .ok (.putfield 332, 3) := by decide +kernel
theorem prd_X_layout_43 : decode prb_X_layout 43 = .ok (.aload_n 0, 1) := by decide +kernel
theorem prd_X_layout_44 : decode prb_X_layout 44 = .ok (.iconst 0, 1) := by decide +kernel
theorem prd_X_layout_45 : decode prb_X_layout 45 = .ok (.putfield 335, 3) := by decide +kernel
theorem prd_X_layout_48 : decode prb_X_layout 48 = .ok (.aload_n 0, 1) := by decide +kernel
theorem prd_X_layout_49 : decode prb_X_layout 49 = .ok (.iconst 0, 1) := by decide +kernel
theorem prd_X_layout_50 : decode prb_X_layout 50 = .ok (.putfield 338, 3) := by decide +kernel
theorem prd_X_layout_53 : decode prb_X_layout 53 = .ok (.aload_n 0, 1) := by decide +kernel
theorem prd_X_layout_54 : decode prb_X_layout 54 = .ok (.getfield 47, 3) := by decide +kernel
theorem prd_X_layout_57 : decode prb_X_layout 57 = .ok (.iload_n 1, 1) := by decide +kernel
theorem prd_X_layout_58 : decode prb_X_layout 58 = .ok (.iconst 2, 1) := by decide +kernel
theorem prd_X_layout_59 : decode prb_X_layout 59 = .ok (.iadd, 1) := by decide +kernel
theorem prd_X_layout_60 : decode prb_X_layout 60 = .ok (.iaload, 1) := by decide +kernel
theorem prd_X_layout_61 : decode prb_X_layout 61 = .ok (.bipush 13, 2) := by decide +kernel
theorem prd_X_layout_63 : decode prb_X_layout 63 = .ok (.if_icmp .ne 14, 3) := by decide +kernel
theorem prd_X_layout_77 : decode prb_X_layout 77 = .ok (.aload_n 0, 1) := by decide +kernel
theorem prd_X_layout_78 : decode prb_X_layout 78 = .ok (.aload_n 0, 1) := by decide +kernel
theorem prd_X_layout_79 : decode prb_X_layout 79 = .ok (.iload_n 1, 1) := by decide +kernel
theorem prd_X_layout_80 : decode prb_X_layout 80 = .ok (.invokevirtual 310, 3) := by decide +kernel
theorem prd_X_layout_83 : decode prb_X_layout 83 = .ok (.iload_n 1, 1) := by decide +kernel
theorem prd_X_layout_84 : decode prb_X_layout 84 = .ok (.iconst (-1), 1) := by decide +kernel
theorem prd_X_layout_85 : decode prb_X_layout 85 = .ok (.iconst 0, 1) := by decide +kernel
theorem prd_X_layout_86 : decode prb_X_layout 86 = .ok (.invokevirtual 341, 3) := by decide +kernel
theorem prd_X_layout_89 : decode prb_X_layout 89 = .ok (.aload_n 0, 1) := by decide +kernel
theorem prd_X_layout_90 : decode prb_X_layout 90 = .ok (.getfield 298, 3) := by decide +kernel
theorem prd_X_layout_93 : decode prb_X_layout 93 = .ok (.ifCond .ne 78, 3) := by decide +kernel
theorem prd_X_layout_171 : decode prb_X_layout 171 = .ok (.return_, 1) := by decide +kernel
theorem prd_X_layout_96 : decode prb_X_layout 96 = .ok (.aload_n 0, 1) := by decide +kernel
theorem prd_X_layout_97 : decode prb_X_layout 97 = .ok (.getfield 68, 3) := by decide +kernel
theorem prd_X_layout_100 : decode prb_X_layout 100 = .ok (.aload_n 0, 1) := by decide +kernel
theorem prd_X_layout_101 : decode prb_X_layout 101 = .ok (.getfield 148, 3) := by decide +kernel
theorem prd_X_layout_104 : decode prb_X_layout 104 = .ok (.iconst (-1), 1) := by decide +kernel
theorem prd_X_layout_105 : decode prb_X_layout 105 = .ok (.iastore, 1) := by decide +kernel
theorem prd_X_layout_106 : decode prb_X_layout 106 = .ok (.aload_n 0, 1) := by decide +kernel
theorem prd_X_layout_107 : decode prb_X_layout 107 = .ok (.getfield 71, 3) := by decide +kernel
theorem prd_X_layout_110 : decode prb_X_layout 110 = .ok (.aload_n 0, 1) := by decide +kernel
theorem prd_X_layout_111 : decode prb_X_layout 111 = .ok (.getfield 148, 3) := by decide +kernel
theorem prd_X_layout_114 : decode prb_X_layout 114 = .ok (.iconst (-1), 1) := by decide +kernel
theorem prd_X_layout_115 : decode prb_X_layout 115 = .ok (.iastore, 1) := by decide +kernel
theorem prd_X_layout_116 : decode prb_X_layout 116 = .ok (.aload_n 0, 1) := by decide +kernel
theorem prd_X_layout_117 : decode prb_X_layout 117 = .ok (.getfield 77, 3) := by decide +kernel
theorem prd_X_layout_120 : decode prb_X_layout 120 = .ok (.aload_n 0, 1) := by decide +kernel
theorem prd_X_layout_121 : decode prb_X_layout 121 = .ok (.getfield 148, 3) := by decide +kernel
theorem prd_X_layout_124 : decode prb_X_layout 124 = .ok (.iconst 0, 1) := by decide +kernel
theorem prd_X_layout_125 : decode prb_X_layout 125 = .ok (.iastore, 1) := by decide +kernel
theorem prd_X_layout_126 : decode prb_X_layout 126 = .ok (.aload_n 0, 1) := by decide +kernel
theorem prd_X_layout_127 : decode prb_X_layout 127 = .ok (.getfield 80, 3) := by decide +kernel
theorem prd_X_layout_130 : decode prb_X_layout 130 = .ok (.aload_n 0, 1) := by decide +kernel
theorem prd_X_layout_131 : decode prb_X_layout 131 = .ok (.getfield 148, 3) := by decide +kernel
theorem prd_X_layout_134 : decode prb_X_layout 134 = .ok (.iconst 0, 1) := by decide +kernel
theorem prd_X_layout_135 : decode prb_X_layout 135 = .ok (.iastore, 1) := by decide +kernel
theorem prd_X_layout_136 : decode prb_X_layout 136 = .ok (.aload_n 0, 1) := by decide +kernel
theorem prd_X_layout_137 : decode prb_X_layout 137 = .ok (.getfield 74, 3) := by decide +kernel
theorem prd_X_layout_140 : decode prb_X_layout 140 = .ok (.aload_n 0, 1) := by decide +kernel
theorem prd_X_layout_141 : decode prb_X_layout 141 = .ok (.getfield 148, 3) := by decide +kernel
theorem prd_X_layout_144 : decode prb_X_layout 144 = .ok (.aload_n 0, 1) := by decide +kernel
theorem prd_X_layout_145 : decode prb_X_layout 145 = .ok (.getfield 148, 3) := by decide +kernel
theorem prd_X_layout_148 : decode prb_X_layout 148 = .ok (.iconst 1, 1) := by decide +kernel
theorem prd_X_layout_149 : decode prb_X_layout 149 = .ok (.iadd, 1) := by decide +kernel
theorem prd_X_layout_150 : decode prb_X_layout 150 = .ok (.iastore, 1) := by decide +kernel
theorem prd_X_layout_151 : decode prb_X_layout 151 = .ok (.aload_n 0, 1) := by decide +kernel
theorem prd_X_layout_152 : decode prb_X_layout 152 = .ok (.getfield 83, 3) := by decide +kernel
theorem prd_X_layout_155 : decode prb_X_layout 155 = .ok (.aload_n 0, 1) := by decide +kernel
theorem prd_X_layout_156 : decode prb_X_layout 156 = .ok (.getfield 148, 3) := by decide +kernel
theorem prd_X_layout_159 : decode prb_X_layout 159 = .ok (.iconst 0, 1) := by decide +kernel
theorem prd_X_layout_160 : decode prb_X_layout 160 = .ok (.iastore, 1) := by decide +kernel
theorem prd_X_layout_161 : decode prb_X_layout 161 = .ok (.aload_n 0, 1) := by decide +kernel
theorem prd_X_layout_162 : decode prb_X_layout 162 = .ok (.dup, 1) := by decide +kernel
theorem prd_X_layout_163 : decode prb_X_layout 163 = .ok (.getfield 148, 3) := by decide +kernel
theorem prd_X_layout_166 : decode prb_X_layout 166 = .ok (.iconst 1, 1) := by decide +kernel
theorem prd_X_layout_167 : decode prb_X_layout 167 = .ok (.iadd, 1) := by decide +kernel
theorem prd_X_layout_168 : decode prb_X_layout 168 = .ok (.putfield 148, 3) := by decide +kernel
theorem prd_X_layout_66 : decode prb_X_layout 66 = .ok (.aload_n 0, 1) := by decide +kernel
theorem prd_X_layout_67 : decode prb_X_layout 67 = .ok (.bipush 7, 2) := by decide +kernel
theorem prd_X_layout_69 : decode prb_X_layout 69 = .ok (.iload_n 1, 1) := by decide +kernel
theorem prd_X_layout_70 : decode prb_X_layout 70 = .ok (.iconst 1, 1) := by decide +kernel
theorem prd_X_layout_71 : decode prb_X_layout 71 = .ok (.iadd, 1) := by decide +kernel
theorem prd_X_layout_72 : decode prb_X_layout 72 = .ok (.invokevirtual 325, 3) := by decide +kernel
theorem prd_X_layout_75 : decode prb_X_layout 75 = .ok (.pop, 1) := by decide +kernel
theorem prd_X_layout_76 : decode prb_X_layout 76 = .ok (.return_, 1) := by decide +kernel
theorem prd_X_layout_12 : decode prb_X_layout 12 = .ok (.iload_n 2, 1) := by decide +kernel
theorem prd_X_layout_13 : decode prb_X_layout 13 = .ok (.istore_n 1, 1) := by decide +kernel
theorem prd_X_layout_14 : decode prb_X_layout 14 = .ok (.aload_n 0, 1) := by decide +kernel
theorem prd_X_layout_15 : decode prb_X_layout 15 = .ok (.iload_n 2, 1) := by decide +kernel
theorem prd_X_layout_16 : decode prb_X_layout 16 = .ok (.invokevirtual 307, 3) := by decide +kernel
theorem prd_X_layout_19 : decode prb_X_layout 19 = .ok (.istore_n 2, 1) := by decide +kernel
theorem prd_X_layout_20 : decode prb_X_layout 20 = .ok (.goto (-16), 3) := by decide +kernel
theorem prd_X_end_0 : decode prb_X_end 0 = .ok (.iload_n 1, 1) := by decide +kernel
theorem prd_X_end_1 : decode prb_X_end 1 = .ok (.ifCond .lt 11, 3) := by decide +kernel
theorem prd_X_end_12 : decode prb_X_end 12 = .ok (.iconst (-1), 1) := by decide +kernel
theorem prd_X_end_13 : decode prb_X_end 13 = .ok (.ireturn, 1) := by decide +kernel
theorem prd_X_end_4 : decode prb_X_end 4 = .ok (.iload_n 1, 1) := by decide +kernel
theorem prd_X_end_5 : decode prb_X_end 5 = .ok (.aload_n 0, 1) := by decide +kernel
theorem prd_X_end_6 : decode prb_X_end 6 = .ok (.getfield 163, 3) := by decide +kernel
theorem prd_X_end_9 : decode prb_X_end 9 = .ok (.if_icmp .le 5, 3) := by decide +kernel
theorem prd_X_end_14 : decode prb_X_end 14 = .ok (.aload_n 0, 1) := by decide +kernel
theorem prd_X_end_15 : decode prb_X_end 15 = .ok (.iload_n 1, 1) := by decide +kernel
theorem prd_X_end_16 : decode prb_X_end 16 = .ok (.putfield 166, 3) := by decide +kernel
theorem prd_X_end_19 : decode prb_X_end 19 = .ok (.aload_n 0, 1) := by decide +kernel
theorem prd_X_end_20 : decode prb_X_end 20 = .ok (.iconst 0, 1) := by decide +kernel
theorem prd_X_end_21 : decode prb_X_end 21 = .ok (.putfield 160, 3) := by decide +kernel
theorem prd_X_end_24 : decode prb_X_end 24 = .ok (.aload_n 0, 1) := by decide +kernel
theorem prd_X_end_25 : decode prb_X_end 25 = .ok (.iconst 0, 1) := by decide +kernel
theorem prd_X_end_26 : decode prb_X_end 26 = .ok (.putfield 279, 3) := by decide +kernel
theorem prd_X_end_29 : decode prb_X_end 29 = .ok (.aload_n 0, 1) := by decide +kernel
theorem prd_X_end_30 : decode prb_X_end 30 = .ok (.iconst 0, 1) := by decide +kernel
theorem prd_X_end_31 : decode prb_X_end 31 = .ok (.iconst 0, 1) := by decide +kernel
theorem prd_X_end_32 : decode prb_X_end 32 = .ok (.iconst 0, 1) := by decide +kernel
theorem prd_X_end_33 : decode prb_X_end 33 = .ok (.iconst (-1), 1) := by decide +kernel
theorem prd_X_end_34 : decode prb_X_end 34 = .ok (.invokevirtual 285, 3) := by decide +kernel
theorem prd_X_end_37 : decode prb_X_end 37 = .ok (.pop, 1) := by decide +kernel
theorem prd_X_end_38 : decode prb_X_end 38 = .ok (.aload_n 0, 1) := by decide +kernel
theorem prd_X_end_39 : decode prb_X_end 39 = .ok (.invokevirtual 289, 3) := by decide +kernel
theorem prd_X_end_42 : decode prb_X_end 42 = .ok (.aload_n 0, 1) := by decide +kernel
theorem prd_X_end_43 : decode prb_X_end 43 = .ok (.iconst 0, 1) := by decide +kernel
theorem prd_X_end_44 : decode prb_X_end 44 = .ok (.putfield 215, 3) := by decide +kernel
theorem prd_X_end_47 : decode prb_X_end 47 = .ok (.aload_n 0, 1) := by decide +kernel
theorem prd_X_end_48 : decode prb_X_end 48 = .ok (.iconst 0, 1) := by decide +kernel
theorem prd_X_end_49 : decode prb_X_end 49 = .ok (.putfield 211, 3) := by decide +kernel
theorem prd_X_end_52 : decode prb_X_end 52 = .ok (.aload_n 0, 1) := by decide +kernel
theorem prd_X_end_53 : decode prb_X_end 53 = .ok (.iconst (-1), 1) := by decide +kernel
theorem prd_X_end_54 : decode prb_X_end 54 = .ok (.putfield 22, 3) := by decide +kernel
theorem prd_X_end_57 : decode prb_X_end 57 = .ok (.aload_n 0, 1) := by decide +kernel
theorem prd_X_end_58 : decode prb_X_end 58 = .ok (.iconst 0, 1) := by decide +kernel
theorem prd_X_end_59 : decode prb_X_end 59 = .ok (.putfield 225, 3) := by decide +kernel
theorem prd_X_end_62 : decode prb_X_end 62 = .ok (.aload_n 0, 1) := by decide +kernel
theorem prd_X_end_63 : decode prb_X_end 63 = .ok (.invokevirtual 292, 3) := by decide +kernel
theorem prd_X_end_66 : decode prb_X_end 66 = .ok (.istore_n 2, 1) := by decide +kernel
theorem prd_X_end_67 : decode prb_X_end 67 = .ok (.aload_n 0, 1) := by decide +kernel
theorem prd_X_end_68 : decode prb_X_end 68 = .ok (.getfield 211, 3) := by decide +kernel
theorem prd_X_end_71 : decode prb_X_end 71 = .ok (.ifCond .ne 8, 3) := by decide +kernel
theorem prd_X_end_74 : decode prb_X_end 74 = .ok (.aload_n 0, 1) := by decide +kernel
theorem prd_X_end_75 : decode prb_X_end 75 = .ok (.iload_n 2, 1) := by decide +kernel
theorem prd_X_end_76 : decode prb_X_end 76 = .ok (.invokevirtual 295, 3) := by decide +kernel
theorem prd_X_end_79 : decode prb_X_end 79 = .ok (.aload_n 0, 1) := by decide +kernel
theorem prd_X_end_80 : decode prb_X_end 80 = .ok (.invokevirtual 218, 3) := by decide +kernel
theorem prd_X_end_83 : decode prb_X_end 83 = .ok (.ifCond .eq 10, 3) := by decide +kernel
theorem prd_X_end_86 : decode prb_X_end 86 = .ok (.aload_n 0, 1) := by decide +kernel
theorem prd_X_end_87 : decode prb_X_end 87 = .ok (.getfield 211, 3) := by decide +kernel
theorem prd_X_end_90 : decode prb_X_end 90 = .ok (.ifCond .eq (-33), 3) := by decide +kernel
theorem prd_X_end_93 : decode prb_X_end 93 = .ok (.aload_n 0, 1) := by decide +kernel
theorem prd_X_end_94 : decode prb_X_end 94 = .ok (.iconst 0, 1) := by decide +kernel
theorem prd_X_end_95 : decode prb_X_end 95 = .ok (.putfield 163, 3) := by decide +kernel
theorem prd_X_end_98 : decode prb_X_end 98 = .ok (.aload_n 0, 1) := by decide +kernel
theorem prd_X_end_99 : decode prb_X_end 99 = .ok (.iconst 0, 1) := by decide +kernel
theorem prd_X_end_100 : decode prb_X_end 100 = .ok (.putfield 298, 3) := by decide +kernel
theorem prd_X_end_103 : decode prb_X_end 103 = .ok (.aload_n 0, 1) := by decide +kernel
theorem prd_X_end_104 : decode prb_X_end 104 = .ok (.aload_n 0, 1) := by decide +kernel
theorem prd_X_end_105 : decode prb_X_end 105 = .ok (.getfield 211, 3) := by decide +kernel
theorem prd_X_end_108 : decode prb_X_end 108 = .ok (.ifCond .eq 10, 3) := by decide +kernel
theorem prd_X_end_118 : decode prb_X_end 118 = .ok (.iconst 0, 1) := by decide +kernel
theorem prd_X_end_119 : decode prb_X_end 119 = .ok (.putfield 301, 3) := by decide +kernel
theorem prd_X_end_122 : decode prb_X_end 122 = .ok (.aload_n 0, 1) := by decide +kernel
theorem prd_X_end_123 : decode prb_X_end 123 = .ok (.invokevirtual 145, 3) := by decide +kernel
theorem prd_X_end_126 : decode prb_X_end 126 = .ok (.aload_n 0, 1) := by decide +kernel
theorem prd_X_end_127 : decode prb_X_end 127 = .ok (.aload_n 0, 1) := by decide +kernel
theorem prd_X_end_128 : decode prb_X_end 128 = .ok (.getfield 211, 3) := by decide +kernel
theorem prd_X_end_131 : decode prb_X_end 131 = .ok (.ifCond .eq 7, 3) := by decide +kernel
theorem prd_X_end_138 : decode prb_X_end 138 = .ok (.iconst 0, 1) := by decide +kernel
theorem prd_X_end_139 : decode prb_X_end 139 = .ok (.putfield 107, 3) := by decide +kernel
theorem prd_X_end_142 : decode prb_X_end 142 = .ok (.aload_n 0, 1) := by decide +kernel
theorem prd_X_end_143 : decode prb_X_end 143 = .ok (.getfield 211, 3) := by decide +kernel
theorem prd_X_end_146 : decode prb_X_end 146 = .ok (.ifCond .ne 7, 3) := by decide +kernel
theorem prd_X_end_153 : decode prb_X_end 153 = .ok (.aload_n 0, 1) := by decide +kernel
theorem prd_X_end_154 : decode prb_X_end 154 = .ok (.getfield 298, 3) := by decide +kernel
theorem prd_X_end_157 : decode prb_X_end 157 = .ok (.ifCond .le 12, 3) := by decide +kernel
theorem prd_X_end_169 : decode prb_X_end 169 = .ok (.aload_n 0, 1) := by decide +kernel
theorem prd_X_end_170 : decode prb_X_end 170 = .ok (.getfield 107, 3) := by decide +kernel
theorem prd_X_end_173 : decode prb_X_end 173 = .ok (.ireturn, 1) := by decide +kernel
theorem prd_X_end_160 : decode prb_X_end 160 = .ok (.aload_n 0, 1) := by decide +kernel
theorem prd_X_end_161 : decode prb_X_end 161 = .ok (.iconst 2, 1) := by decide +kernel
theorem prd_X_end_162 : decode prb_X_end 162 = .ok (.putfield 107, 3) := by decide +kernel
theorem prd_X_end_165 : decode prb_X_end 165 = .ok (.aload_n 0, 1) := by decide +kernel
theorem prd_X_end_166 : decode prb_X_end 166 = .ok (.invokevirtual 145, 3) := by decide +kernel
theorem prd_X_end_149 : decode prb_X_end 149 = .ok (.aload_n 0, 1) := by decide +kernel
theorem prd_X_end_150 : decode prb_X_end 150 = .ok (.invokevirtual 304, 3) := by decide +kernel
theorem prd_X_end_134 : decode prb_X_end 134 = .ok (.iconst 1, 1) := by decide +kernel
theorem prd_X_end_135 : decode prb_X_end 135 = .ok (.goto 4, 3) := by decide +kernel
theorem prd_X_end_111 : decode prb_X_end 111 = .ok (.aload_n 0, 1) := by decide +kernel
theorem prd_X_end_112 : decode prb_X_end 112 = .ok (.getfield 22, 3) := by decide +kernel
theorem prd_X_end_115 : decode prb_X_end 115 = .ok (.goto 4, 3) := by decide +kernel
theorem prd_X_told_0 : decode prb_X_told 0 = .ok (.aload_n 0, 1) := by decide +kernel
theorem prd_X_told_1 : decode prb_X_told 1 = .ok (.getfield 107, 3) := by decide +kernel
theorem prd_X_told_4 : decode prb_X_told 4 = .ok (.iconst (-1), 1) := by decide +kernel
theorem prd_X_told_5 : decode prb_X_told 5 = .ok (.if_icmp .eq 12, 3) := by decide +kernel
theorem prd_X_told_17 : decode prb_X_told 17 = .ok (.iconst (-1), 1) := by decide +kernel
theorem prd_X_told_18 : decode prb_X_told 18 = .ok (.goto 18, 3) := by decide +kernel
theorem prd_X_told_36 : decode prb_X_told 36 = .ok (.ireturn, 1) := by decide +kernel
theorem prd_X_told_8 : decode prb_X_told 8 = .ok (.iload_n 1, 1) := by decide +kernel
theorem prd_X_told_9 : decode prb_X_told 9 = .ok (.ifCond .lt 8, 3) := by decide +kernel
theorem prd_X_told_12 : decode prb_X_told 12 = .ok (.iload_n 1, 1) := by decide +kernel
theorem prd_X_told_13 : decode prb_X_told 13 = .ok (.iconst 1, 1) := by decide +kernel
theorem prd_X_told_14 : decode prb_X_told 14 = .ok (.if_icmp .le 7, 3) := by decide +kernel
theorem prd_X_told_21 : decode prb_X_told 21 = .ok (.iload_n 1, 1) := by decide +kernel
theorem prd_X_told_22 : decode prb_X_told 22 = .ok (.ifCond .ne 10, 3) := by decide +kernel
theorem prd_X_told_32 : decode prb_X_told 32 = .ok (.aload_n 0, 1) := by decide +kernel
theorem prd_X_told_33 : decode prb_X_told 33 = .ok (.getfield 301, 3) := by decide +kernel
theorem prd_X_told_25 : decode prb_X_told 25 = .ok (.aload_n 0, 1) := by decide +kernel
theorem prd_X_told_26 : decode prb_X_told 26 = .ok (.getfield 298, 3) := by decide +kernel
theorem prd_X_told_29 : decode prb_X_told 29 = .ok (.goto 7, 3) := by decide +kernel
theorem prd_X_points_0 : decode prb_X_points 0 = .ok (.aload_n 0, 1) := by decide +kernel
theorem prd_X_points_1 : decode prb_X_points 1 = .ok (.getfield 148, 3) := by decide +kernel
theorem prd_X_points_4 : decode prb_X_points 4 = .ok (.ireturn, 1) := by decide +kernel
theorem prd_X_after_0 : decode prb_X_after 0 = .ok (.iload_n 1, 1) := by decide +kernel
theorem prd_X_after_1 : decode prb_X_after 1 = .ok (.istore_n 2, 1) := by decide +kernel
theorem prd_X_after_2 : decode prb_X_after 2 = .ok (.aload_n 0, 1) := by decide +kernel
theorem prd_X_after_3 : decode prb_X_after 3 = .ok (.getfield 68, 3) := by decide +kernel
theorem prd_X_after_6 : decode prb_X_after 6 = .ok (.iload_n 2, 1) := by decide +kernel
theorem prd_X_after_7 : decode prb_X_after 7 = .ok (.iaload, 1) := by decide +kernel
theorem prd_X_after_8 : decode prb_X_after 8 = .ok (.iconst (-1), 1) := by decide +kernel
theorem prd_X_after_9 : decode prb_X_after 9 = .ok (.if_icmp .eq 80, 3) := by decide +kernel
theorem prd_X_after_89 : decode prb_X_after 89 = .ok (.iload_n 2, 1) := by decide +kernel
theorem prd_X_after_90 : decode prb_X_after 90 = .ok (.ireturn, 1) := by decide +kernel
theorem prd_X_after_12 : decode prb_X_after 12 = .ok (.aload_n 0, 1) := by decide +kernel
theorem prd_X_after_13 : decode prb_X_after 13 = .ok (.getfield 68, 3) := by decide +kernel
theorem prd_X_after_16 : decode prb_X_after 16 = .ok (.iload_n 2, 1) := by decide +kernel
theorem prd_X_after_17 : decode prb_X_after 17 = .ok (.iaload, 1) := by decide +kernel
theorem prd_X_after_18 : decode prb_X_after 18 = .ok (.istore_n 3, 1) := by decide +kernel
theorem prd_X_after_19 : decode prb_X_after 19 = .ok (.aload_n 0, 1) := by decide +kernel
theorem prd_X_after_20 : decode prb_X_after 20 = .ok (.iload_n 3, 1) := by decide +kernel
theorem prd_X_after_21 : decode prb_X_after 21 = .ok (.invokevirtual 307, 3) := by decide +kernel
theorem prd_X_after_24 : decode prb_X_after 24 = .ok (.aload_n 0, 1) := by decide +kernel
theorem prd_X_after_25 : decode prb_X_after 25 = .ok (.aload_n 0, 1) := by decide +kernel
theorem prd_X_after_26 : decode prb_X_after 26 = .ok (.getfield 56, 3) := by decide +kernel
theorem prd_X_after_29 : decode prb_X_after 29 = .ok (.iload_n 3, 1) := by decide +kernel
theorem prd_X_after_30 : decode prb_X_after 30 = .ok (.iaload, 1) := by decide +kernel
theorem prd_X_after_31 : decode prb_X_after 31 = .ok (.invokevirtual 307, 3) := by decide +kernel
theorem prd_X_after_34 : decode prb_X_after 34 = .ok (.if_icmp .ge 10, 3) := by decide +kernel
theorem prd_X_after_44 : decode prb_X_after 44 = .ok (.aload_n 0, 1) := by decide +kernel
theorem prd_X_after_45 : decode prb_X_after 45 = .ok (.getfield 71, 3) := by decide +kernel
theorem prd_X_after_48 : decode prb_X_after 48 = .ok (.iload_n 2, 1) := by decide +kernel
theorem prd_X_after_49 : decode prb_X_after 49 = .ok (.iaload, 1) := by decide +kernel
theorem prd_X_after_50 : decode prb_X_after 50 = .ok (.iconst (-1), 1) := by decide +kernel
theorem prd_X_after_51 : decode prb_X_after 51 = .ok (.if_icmp .ne 10, 3) := by decide +kernel
theorem prd_X_after_61 : decode prb_X_after 61 = .ok (.aload_n 0, 1) := by decide +kernel
theorem prd_X_after_62 : decode prb_X_after 62 = .ok (.getfield 71, 3) := by decide +kernel
theorem prd_X_after_65 : decode prb_X_after 65 = .ok (.iload_n 2, 1) := by decide +kernel
theorem prd_X_after_66 : decode prb_X_after 66 = .ok (.iaload, 1) := by decide +kernel
theorem prd_X_after_67 : decode prb_X_after 67 = .ok (.istore_n 2, 1) := by decide +kernel
theorem prd_X_after_68 : decode prb_X_after 68 = .ok (.aload_n 0, 1) := by decide +kernel
theorem prd_X_after_69 : decode prb_X_after 69 = .ok (.getfield 47, 3) := by decide +kernel
theorem prd_X_after_72 : decode prb_X_after 72 = .ok (.aload_n 0, 1) := by decide +kernel
theorem prd_X_after_73 : decode prb_X_after 73 = .ok (.getfield 68, 3) := by decide +kernel
theorem prd_X_after_76 : decode prb_X_after 76 = .ok (.iload_n 2, 1) := by decide +kernel
theorem prd_X_after_77 : decode prb_X_after 77 = .ok (.iaload, 1) := by decide +kernel
theorem prd_X_after_78 : decode prb_X_after 78 = .ok (.iaload, 1) := by decide +kernel
theorem prd_X_after_79 : decode prb_X_after 79 = .ok (.bipush 9, 2) := by decide +kernel
theorem prd_X_after_81 : decode prb_X_after 81 = .ok (.if_icmp .ne 5, 3) := by decide +kernel
theorem prd_X_after_86 : decode prb_X_after 86 = .ok (.goto (-84), 3) := by decide +kernel
theorem prd_X_after_84 : decode prb_X_after 84 = .ok (.iload_n 2, 1) := by decide +kernel
theorem prd_X_after_85 : decode prb_X_after 85 = .ok (.ireturn, 1) := by decide +kernel
theorem prd_X_after_54 : decode prb_X_after 54 = .ok (.aload_n 0, 1) := by decide +kernel
theorem prd_X_after_55 : decode prb_X_after 55 = .ok (.getfield 148, 3) := by decide +kernel
theorem prd_X_after_58 : decode prb_X_after 58 = .ok (.iconst 1, 1) := by decide +kernel
theorem prd_X_after_59 : decode prb_X_after 59 = .ok (.isub, 1) := by decide +kernel
theorem prd_X_after_60 : decode prb_X_after 60 = .ok (.ireturn, 1) := by decide +kernel
theorem prd_X_after_37 : decode prb_X_after 37 = .ok (.aload_n 0, 1) := by decide +kernel
theorem prd_X_after_38 : decode prb_X_after 38 = .ok (.getfield 74, 3) := by decide +kernel
theorem prd_X_after_41 : decode prb_X_after 41 = .ok (.iload_n 2, 1) := by decide +kernel
theorem prd_X_after_42 : decode prb_X_after 42 = .ok (.iaload, 1) := by decide +kernel
theorem prd_X_after_43 : decode prb_X_after 43 = .ok (.ireturn, 1) := by decide +kernel
theorem prd_X_point_0 : decode prb_X_point 0 = .ok (.iload_n 1, 1) := by decide +kernel
theorem prd_X_point_1 : decode prb_X_point 1 = .ok (.ifCond .lt 20, 3) := by decide +kernel
theorem prd_X_point_21 : decode prb_X_point 21 = .ok (.iconst (-1), 1) := by decide +kernel
theorem prd_X_point_22 : decode prb_X_point 22 = .ok (.ireturn, 1) := by decide +kernel
theorem prd_X_point_4 : decode prb_X_point 4 = .ok (.iload_n 1, 1) := by decide +kernel
theorem prd_X_point_5 : decode prb_X_point 5 = .ok (.aload_n 0, 1) := by decide +kernel
theorem prd_X_point_6 : decode prb_X_point 6 = .ok (.getfield 148, 3) := by decide +kernel
theorem prd_X_point_9 : decode prb_X_point 9 = .ok (.if_icmp .ge 12, 3) := by decide +kernel
theorem prd_X_point_12 : decode prb_X_point 12 = .ok (.iload_n 2, 1) := by decide +kernel
theorem prd_X_point_13 : decode prb_X_point 13 = .ok (.ifCond .lt 8, 3) := by decide +kernel
theorem prd_X_point_16 : decode prb_X_point 16 = .ok (.iload_n 2, 1) := by decide +kernel
theorem prd_X_point_17 : decode prb_X_point 17 = .ok (.iconst 4, 1) := by decide +kernel
theorem prd_X_point_18 : decode prb_X_point 18 = .ok (.if_icmp .le 5, 3) := by decide +kernel
theorem prd_X_point_23 : decode prb_X_point 23 = .ok (.aload_n 0, 1) := by decide +kernel
theorem prd_X_point_24 : decode prb_X_point 24 = .ok (.getfield 68, 3) := by decide +kernel
theorem prd_X_point_27 : decode prb_X_point 27 = .ok (.iload_n 1, 1) := by decide +kernel
theorem prd_X_point_28 : decode prb_X_point 28 = .ok (.iaload, 1) := by decide +kernel
theorem prd_X_point_29 : decode prb_X_point 29 = .ok (.istore_n 3, 1) := by decide +kernel
theorem prd_X_point_30 : decode prb_X_point 30 = .ok (.iload_n 2, 1) := by decide +kernel
theorem prd_X_point_31 : decode prb_X_point 31 = .ok (.ifCond .ne 44, 3) := by decide +kernel
theorem prd_X_point_75 : decode prb_X_point 75 = .ok (.iload_n 2, 1) := by decide +kernel
theorem prd_X_point_76 : decode prb_X_point 76 = .ok (.iconst 1, 1) := by decide +kernel
theorem prd_X_point_77 : decode prb_X_point 77 = .ok (.if_icmp .ne 21, 3) := by decide +kernel
theorem prd_X_point_98 : decode prb_X_point 98 = .ok (.iload_n 2, 1) := by decide +kernel
theorem prd_X_point_99 : decode prb_X_point 99 = .ok (.iconst 2, 1) := by decide +kernel
theorem prd_X_point_100 : decode prb_X_point 100 = .ok (.if_icmp .ne 12, 3) := by decide +kernel
theorem prd_X_point_112 : decode prb_X_point 112 = .ok (.iload_n 2, 1) := by decide +kernel
theorem prd_X_point_113 : decode prb_X_point 113 = .ok (.iconst 3, 1) := by decide +kernel
theorem prd_X_point_114 : decode prb_X_point 114 = .ok (.if_icmp .ne 12, 3) := by decide +kernel
theorem prd_X_point_126 : decode prb_X_point 126 = .ok (.aload_n 0, 1) := by decide +kernel
theorem prd_X_point_127 : decode prb_X_point 127 = .ok (.iload_n 1, 1) := by decide +kernel
theorem prd_X_point_128 : decode prb_X_point 128 = .ok (.invokevirtual 371, 3) := by decide +kernel
theorem prd_X_point_131 : decode prb_X_point 131 = .ok (.ireturn, 1) := by decide +kernel
theorem prd_X_point_117 : decode prb_X_point 117 = .ok (.aload_n 0, 1) := by decide +kernel
theorem prd_X_point_118 : decode prb_X_point 118 = .ok (.getfield 80, 3) := by decide +kernel

/-! DECODE ROWS -/
theorem prd_T_bytes_0 : decode prb_T_bytes 0 = .ok (.aload_n 0, 1) := by decide +kernel
theorem prd_T_bytes_1 : decode prb_T_bytes 1 = .ok (.getfield 25, 3) := by decide +kernel
theorem prd_T_bytes_4 : decode prb_T_bytes 4 = .ok (.ireturn, 1) := by decide +kernel
theorem prd_T_addBytes_0 : decode prb_T_addBytes 0 = .ok (.bipush 24, 2) := by decide +kernel
theorem prd_T_addBytes_2 : decode prb_T_addBytes 2 = .ok (.istore_n 2, 1) := by decide +kernel
theorem prd_T_addBytes_3 : decode prb_T_addBytes 3 = .ok (.iload_n 2, 1) := by decide +kernel
theorem prd_T_addBytes_4 : decode prb_T_addBytes 4 = .ok (.ifCond .lt 51, 3) := by decide +kernel
theorem prd_T_addBytes_55 : decode prb_T_addBytes 55 = .ok (.return_, 1) := by decide +kernel
theorem prd_T_addBytes_7 : decode prb_T_addBytes 7 = .ok (.aload_n 0, 1) := by decide +kernel
theorem prd_T_addBytes_8 : decode prb_T_addBytes 8 = .ok (.getfield 25, 3) := by decide +kernel
theorem prd_T_addBytes_11 : decode prb_T_addBytes 11 = .ok (.ifCond .lt 38, 3) := by decide +kernel
theorem prd_T_addBytes_49 : decode prb_T_addBytes 49 = .ok (.iinc 2 (-8), 3) := by decide +kernel
theorem prd_T_addBytes_52 : decode prb_T_addBytes 52 = .ok (.goto (-49), 3) := by decide +kernel
theorem prd_T_addBytes_14 : decode prb_T_addBytes 14 = .ok (.aload_n 0, 1) := by decide +kernel
theorem prd_T_addBytes_15 : decode prb_T_addBytes 15 = .ok (.getfield 25, 3) := by decide +kernel
theorem prd_T_addBytes_18 : decode prb_T_addBytes 18 = .ok (.aload_n 0, 1) := by decide +kernel
theorem prd_T_addBytes_19 : decode prb_T_addBytes 19 = .ok (.getfield 9, 3) := by decide +kernel
theorem prd_T_addBytes_22 : decode prb_T_addBytes 22 = .ok (.arraylength, 1) := by decide +kernel
theorem prd_T_addBytes_23 : decode prb_T_addBytes 23 = .ok (.if_icmp .ge 26, 3) := by decide +kernel
theorem prd_T_addBytes_26 : decode prb_T_addBytes 26 = .ok (.aload_n 0, 1) := by decide +kernel
theorem prd_T_addBytes_27 : decode prb_T_addBytes 27 = .ok (.getfield 9, 3) := by decide +kernel
theorem prd_T_addBytes_30 : decode prb_T_addBytes 30 = .ok (.aload_n 0, 1) := by decide +kernel
theorem prd_T_addBytes_31 : decode prb_T_addBytes 31 = .ok (.getfield 25, 3) := by decide +kernel
theorem prd_T_addBytes_34 : decode prb_T_addBytes 34 = .ok (.iload_n 1, 1) := by decide +kernel
theorem prd_T_addBytes_35 : decode prb_T_addBytes 35 = .ok (.iload_n 2, 1) := by decide +kernel
theorem prd_T_addBytes_36 : decode prb_T_addBytes 36 = .ok (.ishr, 1) := by decide +kernel
theorem prd_T_addBytes_37 : decode prb_T_addBytes 37 = .ok (.i2b, 1) := by decide +kernel
theorem prd_T_addBytes_38 : decode prb_T_addBytes 38 = .ok (.bastore, 1) := by decide +kernel
theorem prd_T_addBytes_39 : decode prb_T_addBytes 39 = .ok (.aload_n 0, 1) := by decide +kernel
theorem prd_T_addBytes_40 : decode prb_T_addBytes 40 = .ok (.dup, 1) := by decide +kernel
theorem prd_T_addBytes_41 : decode prb_T_addBytes 41 = .ok (.getfield 25, 3) := by decide +kernel
theorem prd_T_addBytes_44 : decode prb_T_addBytes 44 = .ok (.iconst 1, 1) := by decide +kernel
theorem prd_T_addBytes_45 : decode prb_T_addBytes 45 = .ok (.iadd, 1) := by decide +kernel
theorem prd_T_addBytes_46 : decode prb_T_addBytes 46 = .ok (.putfield 25, 3) := by decide +kernel
theorem prd_T_byteAt_0 : decode prb_T_byteAt 0 = .ok (.iload_n 1, 1) := by decide +kernel
theorem prd_T_byteAt_1 : decode prb_T_byteAt 1 = .ok (.ifCond .lt 33, 3) := by decide +kernel
theorem prd_T_byteAt_34 : decode prb_T_byteAt 34 = .ok (.iconst 0, 1) := by decide +kernel
theorem prd_T_byteAt_35 : decode prb_T_byteAt 35 = .ok (.ireturn, 1) := by decide +kernel
theorem prd_T_byteAt_4 : decode prb_T_byteAt 4 = .ok (.iload_n 1, 1) := by decide +kernel
theorem prd_T_byteAt_5 : decode prb_T_byteAt 5 = .ok (.aload_n 0, 1) := by decide +kernel
theorem prd_T_byteAt_6 : decode prb_T_byteAt 6 = .ok (.getfield 29, 3) := by decide +kernel
theorem prd_T_byteAt_9 : decode prb_T_byteAt 9 = .ok (.if_icmp .ge 25, 3) := by decide +kernel
theorem prd_T_byteAt_12 : decode prb_T_byteAt 12 = .ok (.iload_n 1, 1) := by decide +kernel
theorem prd_T_byteAt_13 : decode prb_T_byteAt 13 = .ok (.aload_n 0, 1) := by decide +kernel
theorem prd_T_byteAt_14 : decode prb_T_byteAt 14 = .ok (.getfield 9, 3) := by decide +kernel
theorem prd_T_byteAt_17 : decode prb_T_byteAt 17 = .ok (.arraylength, 1) := by decide +kernel
theorem prd_T_byteAt_18 : decode prb_T_byteAt 18 = .ok (.if_icmp .ge 16, 3) := by decide +kernel
theorem prd_T_byteAt_21 : decode prb_T_byteAt 21 = .ok (.aload_n 0, 1) := by decide +kernel
theorem prd_T_byteAt_22 : decode prb_T_byteAt 22 = .ok (.getfield 9, 3) := by decide +kernel
theorem prd_T_byteAt_25 : decode prb_T_byteAt 25 = .ok (.iload_n 1, 1) := by decide +kernel
theorem prd_T_byteAt_26 : decode prb_T_byteAt 26 = .ok (.baload, 1) := by decide +kernel
theorem prd_T_byteAt_27 : decode prb_T_byteAt 27 = .ok (.sipush 255, 3) := by decide +kernel
theorem prd_T_byteAt_30 : decode prb_T_byteAt 30 = .ok (.iand, 1) := by decide +kernel
theorem prd_T_byteAt_31 : decode prb_T_byteAt 31 = .ok (.goto 4, 3) := by decide +kernel
theorem prd_T_behindBlanks_0 : decode prb_T_behindBlanks 0 = .ok (.iconst 0, 1) := by decide +kernel
theorem prd_T_behindBlanks_1 : decode prb_T_behindBlanks 1 = .ok (.istore_n 2, 1) := by decide +kernel
theorem prd_T_behindBlanks_2 : decode prb_T_behindBlanks 2 = .ok (.iload_n 1, 1) := by decide +kernel
theorem prd_T_behindBlanks_3 : decode prb_T_behindBlanks 3 = .ok (.istore_n 3, 1) := by decide +kernel
theorem prd_T_behindBlanks_4 : decode prb_T_behindBlanks 4 = .ok (.iload_n 3, 1) := by decide +kernel
theorem prd_T_behindBlanks_5 : decode prb_T_behindBlanks 5 = .ok (.aload_n 0, 1) := by decide +kernel
theorem prd_T_behindBlanks_6 : decode prb_T_behindBlanks 6 = .ok (.getfield 29, 3) := by decide +kernel
theorem prd_T_behindBlanks_9 : decode prb_T_behindBlanks 9 = .ok (.if_icmp .ge 90, 3) := by decide +kernel
theorem prd_T_behindBlanks_99 : decode prb_T_behindBlanks 99 = .ok (.aload_n 0, 1) := by decide +kernel
theorem prd_T_behindBlanks_100 : decode prb_T_behindBlanks 100 = .ok (.getfield 29, 3) := by decide +kernel
theorem prd_T_behindBlanks_103 : decode prb_T_behindBlanks 103 = .ok (.ireturn, 1) := by decide +kernel
theorem prd_T_behindBlanks_12 : decode prb_T_behindBlanks 12 = .ok (.aload_n 0, 1) := by decide +kernel
theorem prd_T_behindBlanks_13 : decode prb_T_behindBlanks 13 = .ok (.iload_n 3, 1) := by decide +kernel
theorem prd_T_behindBlanks_14 : decode prb_T_behindBlanks 14 = .ok (.invokevirtual 55, 3) := by decide +kernel
theorem prd_T_behindBlanks_17 : decode prb_T_behindBlanks 17 = .ok (.istore 4, 2) := by decide +kernel
theorem prd_T_behindBlanks_19 : decode prb_T_behindBlanks 19 = .ok (.iload_n 2, 1) := by decide +kernel
theorem prd_T_behindBlanks_20 : decode prb_T_behindBlanks 20 = .ok (.ifCond .eq 19, 3) := by decide +kernel
theorem prd_T_behindBlanks_39 : decode prb_T_behindBlanks 39 = .ok (.iload 4, 2) := by decide +kernel
theorem prd_T_behindBlanks_41 : decode prb_T_behindBlanks 41 = .ok (.bipush 47, 2) := by decide +kernel
theorem prd_T_behindBlanks_43 : decode prb_T_behindBlanks 43 = .ok (.if_icmp .ne 20, 3) := by decide +kernel
theorem prd_T_behindBlanks_46 : decode prb_T_behindBlanks 46 = .ok (.aload_n 0, 1) := by decide +kernel
theorem prd_T_behindBlanks_47 : decode prb_T_behindBlanks 47 = .ok (.iload_n 3, 1) := by decide +kernel
theorem prd_T_behindBlanks_48 : decode prb_T_behindBlanks 48 = .ok (.iconst 1, 1) := by decide +kernel
theorem prd_T_behindBlanks_49 : decode prb_T_behindBlanks 49 = .ok (.iadd, 1) := by decide +kernel
theorem prd_T_behindBlanks_50 : decode prb_T_behindBlanks 50 = .ok (.invokevirtual 55, 3) := by decide +kernel
theorem prd_T_behindBlanks_53 : decode prb_T_behindBlanks 53 = .ok (.bipush 47, 2) := by decide +kernel
theorem prd_T_behindBlanks_55 : decode prb_T_behindBlanks 55 = .ok (.if_icmp .ne 8, 3) := by decide +kernel
theorem prd_T_behindBlanks_58 : decode prb_T_behindBlanks 58 = .ok (.iconst 1, 1) := by decide +kernel
theorem prd_T_behindBlanks_59 : decode prb_T_behindBlanks 59 = .ok (.istore_n 2, 1) := by decide +kernel
theorem prd_T_behindBlanks_60 : decode prb_T_behindBlanks 60 = .ok (.goto 33, 3) := by decide +kernel
theorem prd_T_behindBlanks_93 : decode prb_T_behindBlanks 93 = .ok (.iinc 3 1, 3) := by decide +kernel
theorem prd_T_behindBlanks_96 : decode prb_T_behindBlanks 96 = .ok (.goto (-92), 3) := by decide +kernel
theorem prd_T_behindBlanks_23 : decode prb_T_behindBlanks 23 = .ok (.iload 4, 2) := by decide +kernel
theorem prd_T_behindBlanks_25 : decode prb_T_behindBlanks 25 = .ok (.bipush 10, 2) := by decide +kernel
theorem prd_T_behindBlanks_27 : decode prb_T_behindBlanks 27 = .ok (.if_icmp .eq 7, 3) := by decide +kernel
theorem prd_T_behindBlanks_34 : decode prb_T_behindBlanks 34 = .ok (.iconst 0, 1) := by decide +kernel
theorem prd_T_behindBlanks_35 : decode prb_T_behindBlanks 35 = .ok (.istore_n 2, 1) := by decide +kernel
theorem prd_T_behindBlanks_36 : decode prb_T_behindBlanks 36 = .ok (.goto 57, 3) := by decide +kernel
theorem prd_T_behindBlanks_30 : decode prb_T_behindBlanks 30 = .ok (.iconst 1, 1) := by decide +kernel
theorem prd_T_behindBlanks_31 : decode prb_T_behindBlanks 31 = .ok (.goto 4, 3) := by decide +kernel
theorem prd_T_behindBlanks_63 : decode prb_T_behindBlanks 63 = .ok (.iload 4, 2) := by decide +kernel
theorem prd_T_behindBlanks_65 : decode prb_T_behindBlanks 65 = .ok (.bipush 9, 2) := by decide +kernel
theorem prd_T_behindBlanks_67 : decode prb_T_behindBlanks 67 = .ok (.if_icmp .eq 26, 3) := by decide +kernel
theorem prd_T_behindBlanks_70 : decode prb_T_behindBlanks 70 = .ok (.iload 4, 2) := by decide +kernel
theorem prd_T_behindBlanks_72 : decode prb_T_behindBlanks 72 = .ok (.bipush 10, 2) := by decide +kernel
theorem prd_T_behindBlanks_74 : decode prb_T_behindBlanks 74 = .ok (.if_icmp .eq 19, 3) := by decide +kernel
theorem prd_T_behindBlanks_77 : decode prb_T_behindBlanks 77 = .ok (.iload 4, 2) := by decide +kernel
theorem prd_T_behindBlanks_79 : decode prb_T_behindBlanks 79 = .ok (.bipush 13, 2) := by decide +kernel
theorem prd_T_behindBlanks_81 : decode prb_T_behindBlanks 81 = .ok (.if_icmp .eq 12, 3) := by decide +kernel
theorem prd_T_behindBlanks_84 : decode prb_T_behindBlanks 84 = .ok (.iload 4, 2) := by decide +kernel
theorem prd_T_behindBlanks_86 : decode prb_T_behindBlanks 86 = .ok (.bipush 32, 2) := by decide +kernel
theorem prd_T_behindBlanks_88 : decode prb_T_behindBlanks 88 = .ok (.if_icmp .eq 5, 3) := by decide +kernel
theorem prd_T_behindBlanks_91 : decode prb_T_behindBlanks 91 = .ok (.iload_n 3, 1) := by decide +kernel
theorem prd_T_behindBlanks_92 : decode prb_T_behindBlanks 92 = .ok (.ireturn, 1) := by decide +kernel
theorem prd_T_isDigit_0 : decode prb_T_isDigit 0 = .ok (.iload_n 0, 1) := by decide +kernel
theorem prd_T_isDigit_1 : decode prb_T_isDigit 1 = .ok (.bipush 48, 2) := by decide +kernel
theorem prd_T_isDigit_3 : decode prb_T_isDigit 3 = .ok (.if_icmp .lt 13, 3) := by decide +kernel
theorem prd_T_isDigit_16 : decode prb_T_isDigit 16 = .ok (.iconst 0, 1) := by decide +kernel
theorem prd_T_isDigit_17 : decode prb_T_isDigit 17 = .ok (.ireturn, 1) := by decide +kernel
theorem prd_T_isDigit_6 : decode prb_T_isDigit 6 = .ok (.iload_n 0, 1) := by decide +kernel
theorem prd_T_isDigit_7 : decode prb_T_isDigit 7 = .ok (.bipush 57, 2) := by decide +kernel
theorem prd_T_isDigit_9 : decode prb_T_isDigit 9 = .ok (.if_icmp .gt 7, 3) := by decide +kernel
theorem prd_T_isDigit_12 : decode prb_T_isDigit 12 = .ok (.iconst 1, 1) := by decide +kernel
theorem prd_T_isDigit_13 : decode prb_T_isDigit 13 = .ok (.goto 4, 3) := by decide +kernel
theorem prd_T_isInName_0 : decode prb_T_isInName 0 = .ok (.iload_n 0, 1) := by decide +kernel
theorem prd_T_isInName_1 : decode prb_T_isInName 1 = .ok (.bipush 97, 2) := by decide +kernel
theorem prd_T_isInName_3 : decode prb_T_isInName 3 = .ok (.if_icmp .lt 9, 3) := by decide +kernel
theorem prd_T_isInName_6 : decode prb_T_isInName 6 = .ok (.iload_n 0, 1) := by decide +kernel
theorem prd_T_isInName_7 : decode prb_T_isInName 7 = .ok (.bipush 122, 2) := by decide +kernel
theorem prd_T_isInName_9 : decode prb_T_isInName 9 = .ok (.if_icmp .le 28, 3) := by decide +kernel
theorem prd_T_isInName_37 : decode prb_T_isInName 37 = .ok (.iconst 1, 1) := by decide +kernel
theorem prd_T_isInName_38 : decode prb_T_isInName 38 = .ok (.goto 4, 3) := by decide +kernel
theorem prd_T_isInName_42 : decode prb_T_isInName 42 = .ok (.ireturn, 1) := by decide +kernel
theorem prd_T_isInName_12 : decode prb_T_isInName 12 = .ok (.iload_n 0, 1) := by decide +kernel
theorem prd_T_isInName_13 : decode prb_T_isInName 13 = .ok (.bipush 65, 2) := by decide +kernel
theorem prd_T_isInName_15 : decode prb_T_isInName 15 = .ok (.if_icmp .lt 9, 3) := by decide +kernel
theorem prd_T_isInName_24 : decode prb_T_isInName 24 = .ok (.iload_n 0, 1) := by decide +kernel
theorem prd_T_isInName_25 : decode prb_T_isInName 25 = .ok (.bipush 95, 2) := by decide +kernel
theorem prd_T_isInName_27 : decode prb_T_isInName 27 = .ok (.if_icmp .eq 10, 3) := by decide +kernel
theorem prd_T_isInName_30 : decode prb_T_isInName 30 = .ok (.iload_n 0, 1) := by decide +kernel
theorem prd_T_isInName_31 : decode prb_T_isInName 31 = .ok (.invokestatic 58, 3) := by decide +kernel
theorem prd_T_isInName_34 : decode prb_T_isInName 34 = .ok (.ifCond .eq 7, 3) := by decide +kernel
theorem prd_T_isInName_41 : decode prb_T_isInName 41 = .ok (.iconst 0, 1) := by decide +kernel
theorem prd_T_isInName_18 : decode prb_T_isInName 18 = .ok (.iload_n 0, 1) := by decide +kernel
theorem prd_T_isInName_19 : decode prb_T_isInName 19 = .ok (.bipush 90, 2) := by decide +kernel
theorem prd_T_isInName_21 : decode prb_T_isInName 21 = .ok (.if_icmp .le 16, 3) := by decide +kernel
theorem prd_T_add_0 : decode prb_T_add 0 = .ok (.aload_n 0, 1) := by decide +kernel
theorem prd_T_add_1 : decode prb_T_add 1 = .ok (.getfield 32, 3) := by decide +kernel
theorem prd_T_add_4 : decode prb_T_add 4 = .ok (.aload_n 0, 1) := by decide +kernel
theorem prd_T_add_5 : decode prb_T_add 5 = .ok (.getfield 15, 3) := by decide +kernel
theorem prd_T_add_8 : decode prb_T_add 8 = .ok (.arraylength, 1) := by decide +kernel
theorem prd_T_add_9 : decode prb_T_add 9 = .ok (.if_icmp .ge 44, 3) := by decide +kernel
theorem prd_T_add_53 : decode prb_T_add 53 = .ok (.return_, 1) := by decide +kernel
theorem prd_T_add_12 : decode prb_T_add 12 = .ok (.aload_n 0, 1) := by decide +kernel
theorem prd_T_add_13 : decode prb_T_add 13 = .ok (.getfield 15, 3) := by decide +kernel
theorem prd_T_add_16 : decode prb_T_add 16 = .ok (.aload_n 0, 1) := by decide +kernel
theorem prd_T_add_17 : decode prb_T_add 17 = .ok (.getfield 32, 3) := by decide +kernel
theorem prd_T_add_20 : decode prb_T_add 20 = .ok (.iload_n 1, 1) := by decide +kernel
theorem prd_T_add_21 : decode prb_T_add 21 = .ok (.i2b, 1) := by decide +kernel
theorem prd_T_add_22 : decode prb_T_add 22 = .ok (.bastore, 1) := by decide +kernel
theorem prd_T_add_23 : decode prb_T_add 23 = .ok (.aload_n 0, 1) := by decide +kernel
theorem prd_T_add_24 : decode prb_T_add 24 = .ok (.getfield 18, 3) := by decide +kernel
theorem prd_T_add_27 : decode prb_T_add 27 = .ok (.aload_n 0, 1) := by decide +kernel
theorem prd_T_add_28 : decode prb_T_add 28 = .ok (.getfield 32, 3) := by decide +kernel
theorem prd_T_add_31 : decode prb_T_add 31 = .ok (.iload_n 2, 1) := by decide +kernel
theorem prd_T_add_32 : decode prb_T_add 32 = .ok (.iastore, 1) := by decide +kernel
theorem prd_T_add_33 : decode prb_T_add 33 = .ok (.aload_n 0, 1) := by decide +kernel
theorem prd_T_add_34 : decode prb_T_add 34 = .ok (.getfield 22, 3) := by decide +kernel
theorem prd_T_add_37 : decode prb_T_add 37 = .ok (.aload_n 0, 1) := by decide +kernel
theorem prd_T_add_38 : decode prb_T_add 38 = .ok (.getfield 32, 3) := by decide +kernel
theorem prd_T_add_41 : decode prb_T_add 41 = .ok (.iload_n 3, 1) := by decide +kernel
theorem prd_T_add_42 : decode prb_T_add 42 = .ok (.iastore, 1) := by decide +kernel
theorem prd_T_add_43 : decode prb_T_add 43 = .ok (.aload_n 0, 1) := by decide +kernel
theorem prd_T_add_44 : decode prb_T_add 44 = .ok (.dup, 1) := by decide +kernel
theorem prd_T_add_45 : decode prb_T_add 45 = .ok (.getfield 32, 3) := by decide +kernel
theorem prd_T_add_48 : decode prb_T_add 48 = .ok (.iconst 1, 1) := by decide +kernel
theorem prd_T_add_49 : decode prb_T_add 49 = .ok (.iadd, 1) := by decide +kernel
theorem prd_T_add_50 : decode prb_T_add 50 = .ok (.putfield 32, 3) := by decide +kernel
theorem prd_T_readNumber_0 : decode prb_T_readNumber 0 = .ok (.iconst 0, 1) := by decide +kernel
theorem prd_T_readNumber_1 : decode prb_T_readNumber 1 = .ok (.istore_n 2, 1) := by decide +kernel
theorem prd_T_readNumber_2 : decode prb_T_readNumber 2 = .ok (.lconst 0, 1) := by decide +kernel
theorem prd_T_readNumber_3 : decode prb_T_readNumber 3 = .ok (.lstore_n 3, 1) := by decide +kernel
theorem prd_T_readNumber_4 : decode prb_T_readNumber 4 = .ok (.iload_n 1, 1) := by decide +kernel
theorem prd_T_readNumber_5 : decode prb_T_readNumber 5 = .ok (.istore 5, 2) := by decide +kernel
theorem prd_T_readNumber_7 : decode prb_T_readNumber 7 = .ok (.iload 5, 2) := by decide +kernel
theorem prd_T_readNumber_9 : decode prb_T_readNumber 9 = .ok (.aload_n 0, 1) := by decide +kernel
theorem prd_T_readNumber_10 : decode prb_T_readNumber 10 = .ok (.getfield 29, 3) := by decide +kernel
theorem prd_T_readNumber_13 : decode prb_T_readNumber 13 = .ok (.if_icmp .ge 48, 3) := by decide +kernel
theorem prd_T_readNumber_16 : decode prb_T_readNumber 16 = .ok (.aload_n 0, 1) := by decide +kernel
theorem prd_T_readNumber_17 : decode prb_T_readNumber 17 = .ok (.iload 5, 2) := by decide +kernel
theorem prd_T_readNumber_19 : decode prb_T_readNumber 19 = .ok (.invokevirtual 55, 3) := by decide +kernel
theorem prd_T_readNumber_22 : decode prb_T_readNumber 22 = .ok (.invokestatic 58, 3) := by decide +kernel
theorem prd_T_readNumber_25 : decode prb_T_readNumber 25 = .ok (.ifCond .eq 36, 3) := by decide +kernel
theorem prd_T_readNumber_28 : decode prb_T_readNumber 28 = .ok (.iload_n 2, 1) := by decide +kernel
theorem prd_T_readNumber_29 : decode prb_T_readNumber 29 = .ok (.bipush 10, 2) := by decide +kernel
theorem prd_T_readNumber_31 : decode prb_T_readNumber 31 = .ok (.if_icmp .ge 21, 3) := by decide +kernel
theorem prd_T_readNumber_52 : decode prb_T_readNumber 52 = .ok (.iinc 2 1, 3) := by decide +kernel
theorem prd_T_readNumber_55 : decode prb_T_readNumber 55 = .ok (.iinc 5 1, 3) := by decide +kernel
theorem prd_T_readNumber_58 : decode prb_T_readNumber 58 = .ok (.goto (-51), 3) := by decide +kernel
theorem prd_T_readNumber_34 : decode prb_T_readNumber 34 = .ok (.lload_n 3, 1) := by decide +kernel
theorem prd_T_readNumber_35 : decode prb_T_readNumber 35 = .ok (.ldc2_w 74, 3) := by decide +kernel
theorem prd_T_readNumber_38 : decode prb_T_readNumber 38 = .ok (.lmul, 1) := by decide +kernel
theorem prd_T_readNumber_39 : decode prb_T_readNumber 39 = .ok (.aload_n 0, 1) := by decide +kernel
theorem prd_T_readNumber_40 : decode prb_T_readNumber 40 = .ok (.iload 5, 2) := by decide +kernel
theorem prd_T_readNumber_42 : decode prb_T_readNumber 42 = .ok (.invokevirtual 55, 3) := by decide +kernel
theorem prd_T_readNumber_45 : decode prb_T_readNumber 45 = .ok (.i2l, 1) := by decide +kernel
theorem prd_T_readNumber_46 : decode prb_T_readNumber 46 = .ok (.ladd, 1) := by decide +kernel
theorem prd_T_readNumber_47 : decode prb_T_readNumber 47 = .ok (.ldc2_w 76, 3) := by decide +kernel
theorem prd_T_readNumber_50 : decode prb_T_readNumber 50 = .ok (.lsub, 1) := by decide +kernel
theorem prd_T_readNumber_51 : decode prb_T_readNumber 51 = .ok (.lstore_n 3, 1) := by decide +kernel
theorem prd_T_readNumber_61 : decode prb_T_readNumber 61 = .ok (.iload_n 2, 1) := by decide +kernel
theorem prd_T_readNumber_62 : decode prb_T_readNumber 62 = .ok (.iconst 1, 1) := by decide +kernel
theorem prd_T_readNumber_63 : decode prb_T_readNumber 63 = .ok (.if_icmp .le 17, 3) := by decide +kernel
theorem prd_T_readNumber_66 : decode prb_T_readNumber 66 = .ok (.aload_n 0, 1) := by decide +kernel
theorem prd_T_readNumber_67 : decode prb_T_readNumber 67 = .ok (.iload_n 1, 1) := by decide +kernel
theorem prd_T_readNumber_68 : decode prb_T_readNumber 68 = .ok (.invokevirtual 55, 3) := by decide +kernel
theorem prd_T_readNumber_71 : decode prb_T_readNumber 71 = .ok (.bipush 48, 2) := by decide +kernel
theorem prd_T_readNumber_73 : decode prb_T_readNumber 73 = .ok (.if_icmp .ne 7, 3) := by decide +kernel
theorem prd_T_readNumber_76 : decode prb_T_readNumber 76 = .ok (.iconst 1, 1) := by decide +kernel
theorem prd_T_readNumber_77 : decode prb_T_readNumber 77 = .ok (.goto 4, 3) := by decide +kernel
theorem prd_T_readNumber_81 : decode prb_T_readNumber 81 = .ok (.istore 5, 2) := by decide +kernel
theorem prd_T_readNumber_83 : decode prb_T_readNumber 83 = .ok (.iload_n 2, 1) := by decide +kernel
theorem prd_T_readNumber_84 : decode prb_T_readNumber 84 = .ok (.bipush 10, 2) := by decide +kernel
theorem prd_T_readNumber_86 : decode prb_T_readNumber 86 = .ok (.if_icmp .gt 29, 3) := by decide +kernel
theorem prd_T_readNumber_115 : decode prb_T_readNumber 115 = .ok (.iconst 0, 1) := by decide +kernel
theorem prd_T_readNumber_116 : decode prb_T_readNumber 116 = .ok (.ireturn, 1) := by decide +kernel
theorem prd_T_readNumber_89 : decode prb_T_readNumber 89 = .ok (.iload 5, 2) := by decide +kernel
theorem prd_T_readNumber_91 : decode prb_T_readNumber 91 = .ok (.ifCond .ne 24, 3) := by decide +kernel
theorem prd_T_readNumber_94 : decode prb_T_readNumber 94 = .ok (.lload_n 3, 1) := by decide +kernel
theorem prd_T_readNumber_95 : decode prb_T_readNumber 95 = .ok (.ldc2_w 78, 3) := by decide +kernel
theorem prd_T_readNumber_98 : decode prb_T_readNumber 98 = .ok (.lcmp, 1) := by decide +kernel
theorem prd_T_readNumber_99 : decode prb_T_readNumber 99 = .ok (.ifCond .gt 16, 3) := by decide +kernel
theorem prd_T_readNumber_102 : decode prb_T_readNumber 102 = .ok (.aload_n 0, 1) := by decide +kernel
theorem prd_T_readNumber_103 : decode prb_T_readNumber 103 = .ok (.iload_n 1, 1) := by decide +kernel
theorem prd_T_readNumber_104 : decode prb_T_readNumber 104 = .ok (.iload_n 2, 1) := by decide +kernel
theorem prd_T_readNumber_105 : decode prb_T_readNumber 105 = .ok (.iadd, 1) := by decide +kernel
theorem prd_T_readNumber_106 : decode prb_T_readNumber 106 = .ok (.invokevirtual 55, 3) := by decide +kernel
theorem prd_T_readNumber_109 : decode prb_T_readNumber 109 = .ok (.invokestatic 65, 3) := by decide +kernel
theorem prd_T_readNumber_112 : decode prb_T_readNumber 112 = .ok (.ifCond .eq 5, 3) := by decide +kernel
theorem prd_T_readNumber_117 : decode prb_T_readNumber 117 = .ok (.aload_n 0, 1) := by decide +kernel
theorem prd_T_readNumber_118 : decode prb_T_readNumber 118 = .ok (.iconst 3, 1) := by decide +kernel
theorem prd_T_readNumber_119 : decode prb_T_readNumber 119 = .ok (.iload_n 1, 1) := by decide +kernel
theorem prd_T_readNumber_120 : decode prb_T_readNumber 120 = .ok (.lload_n 3, 1) := by decide +kernel
theorem prd_T_readNumber_121 : decode prb_T_readNumber 121 = .ok (.l2i, 1) := by decide +kernel
theorem prd_T_readNumber_122 : decode prb_T_readNumber 122 = .ok (.invokevirtual 42, 3) := by decide +kernel
theorem prd_T_readNumber_125 : decode prb_T_readNumber 125 = .ok (.iload_n 2, 1) := by decide +kernel
theorem prd_T_readNumber_126 : decode prb_T_readNumber 126 = .ok (.ireturn, 1) := by decide +kernel
theorem prd_T_readNumber_80 : decode prb_T_readNumber 80 = .ok (.iconst 0, 1) := by decide +kernel
theorem prd_T_wordOrName_0 : decode prb_T_wordOrName 0 = .ok (.iconst 4, 1) := by decide +kernel
theorem prd_T_wordOrName_1 : decode prb_T_wordOrName 1 = .ok (.istore_n 3, 1) := by decide +kernel
theorem prd_T_wordOrName_2 : decode prb_T_wordOrName 2 = .ok (.iconst 0, 1) := by decide +kernel
theorem prd_T_wordOrName_3 : decode prb_T_wordOrName 3 = .ok (.istore 4, 2) := by decide +kernel
theorem prd_T_wordOrName_5 : decode prb_T_wordOrName 5 = .ok (.iconst 0, 1) := by decide +kernel
theorem prd_T_wordOrName_6 : decode prb_T_wordOrName 6 = .ok (.istore 5, 2) := by decide +kernel
theorem prd_T_wordOrName_8 : decode prb_T_wordOrName 8 = .ok (.iload 5, 2) := by decide +kernel
theorem prd_T_wordOrName_10 : decode prb_T_wordOrName 10 = .ok (.getstatic 84, 3) := by decide +kernel
theorem prd_T_wordOrName_13 : decode prb_T_wordOrName 13 = .ok (.arraylength, 1) := by decide +kernel
theorem prd_T_wordOrName_14 : decode prb_T_wordOrName 14 = .ok (.if_icmp .ge 74, 3) := by decide +kernel
theorem prd_T_wordOrName_88 : decode prb_T_wordOrName 88 = .ok (.iconst 2, 1) := by decide +kernel
theorem prd_T_wordOrName_89 : decode prb_T_wordOrName 89 = .ok (.ireturn, 1) := by decide +kernel
theorem prd_T_wordOrName_17 : decode prb_T_wordOrName 17 = .ok (.getstatic 84, 3) := by decide +kernel
theorem prd_T_wordOrName_20 : decode prb_T_wordOrName 20 = .ok (.iload 5, 2) := by decide +kernel
theorem prd_T_wordOrName_22 : decode prb_T_wordOrName 22 = .ok (.caload, 1) := by decide +kernel
theorem prd_T_wordOrName_23 : decode prb_T_wordOrName 23 = .ok (.bipush 32, 2) := by decide +kernel
theorem prd_T_wordOrName_25 : decode prb_T_wordOrName 25 = .ok (.if_icmp .ne 20, 3) := by decide +kernel
theorem prd_T_wordOrName_45 : decode prb_T_wordOrName 45 = .ok (.iload 4, 2) := by decide +kernel
theorem prd_T_wordOrName_47 : decode prb_T_wordOrName 47 = .ok (.ifCond .lt 32, 3) := by decide +kernel
theorem prd_T_wordOrName_79 : decode prb_T_wordOrName 79 = .ok (.iconst (-1), 1) := by decide +kernel
theorem prd_T_wordOrName_80 : decode prb_T_wordOrName 80 = .ok (.istore 4, 2) := by decide +kernel
theorem prd_T_wordOrName_82 : decode prb_T_wordOrName 82 = .ok (.iinc 5 1, 3) := by decide +kernel
theorem prd_T_wordOrName_85 : decode prb_T_wordOrName 85 = .ok (.goto (-77), 3) := by decide +kernel
theorem prd_T_wordOrName_50 : decode prb_T_wordOrName 50 = .ok (.iload 4, 2) := by decide +kernel
theorem prd_T_wordOrName_52 : decode prb_T_wordOrName 52 = .ok (.iload_n 2, 1) := by decide +kernel
theorem prd_T_wordOrName_53 : decode prb_T_wordOrName 53 = .ok (.if_icmp .ge 26, 3) := by decide +kernel
theorem prd_T_wordOrName_56 : decode prb_T_wordOrName 56 = .ok (.aload_n 0, 1) := by decide +kernel
theorem prd_T_wordOrName_57 : decode prb_T_wordOrName 57 = .ok (.iload_n 1, 1) := by decide +kernel
theorem prd_T_wordOrName_58 : decode prb_T_wordOrName 58 = .ok (.iload 4, 2) := by decide +kernel
theorem prd_T_wordOrName_60 : decode prb_T_wordOrName 60 = .ok (.iadd, 1) := by decide +kernel
theorem prd_T_wordOrName_61 : decode prb_T_wordOrName 61 = .ok (.invokevirtual 55, 3) := by decide +kernel
theorem prd_T_wordOrName_64 : decode prb_T_wordOrName 64 = .ok (.getstatic 84, 3) := by decide +kernel
theorem prd_T_wordOrName_67 : decode prb_T_wordOrName 67 = .ok (.iload 5, 2) := by decide +kernel
theorem prd_T_wordOrName_69 : decode prb_T_wordOrName 69 = .ok (.caload, 1) := by decide +kernel
theorem prd_T_wordOrName_70 : decode prb_T_wordOrName 70 = .ok (.if_icmp .ne 9, 3) := by decide +kernel
theorem prd_T_wordOrName_73 : decode prb_T_wordOrName 73 = .ok (.iinc 4 1, 3) := by decide +kernel
theorem prd_T_wordOrName_76 : decode prb_T_wordOrName 76 = .ok (.goto 6, 3) := by decide +kernel
theorem prd_T_wordOrName_28 : decode prb_T_wordOrName 28 = .ok (.iload 4, 2) := by decide +kernel
theorem prd_T_wordOrName_30 : decode prb_T_wordOrName 30 = .ok (.iload_n 2, 1) := by decide +kernel
theorem prd_T_wordOrName_31 : decode prb_T_wordOrName 31 = .ok (.if_icmp .ne 5, 3) := by decide +kernel
theorem prd_T_wordOrName_36 : decode prb_T_wordOrName 36 = .ok (.iinc 3 1, 3) := by decide +kernel
theorem prd_T_wordOrName_39 : decode prb_T_wordOrName 39 = .ok (.iconst 0, 1) := by decide +kernel
theorem prd_T_wordOrName_40 : decode prb_T_wordOrName 40 = .ok (.istore 4, 2) := by decide +kernel
theorem prd_T_wordOrName_42 : decode prb_T_wordOrName 42 = .ok (.goto 40, 3) := by decide +kernel
theorem prd_T_wordOrName_34 : decode prb_T_wordOrName 34 = .ok (.iload_n 3, 1) := by decide +kernel
theorem prd_T_wordOrName_35 : decode prb_T_wordOrName 35 = .ok (.ireturn, 1) := by decide +kernel
theorem prd_T_readName_0 : decode prb_T_readName 0 = .ok (.iconst 0, 1) := by decide +kernel
theorem prd_T_readName_1 : decode prb_T_readName 1 = .ok (.istore_n 2, 1) := by decide +kernel
theorem prd_T_readName_2 : decode prb_T_readName 2 = .ok (.iload_n 1, 1) := by decide +kernel
theorem prd_T_readName_3 : decode prb_T_readName 3 = .ok (.istore_n 3, 1) := by decide +kernel
theorem prd_T_readName_4 : decode prb_T_readName 4 = .ok (.iload_n 3, 1) := by decide +kernel
theorem prd_T_readName_5 : decode prb_T_readName 5 = .ok (.aload_n 0, 1) := by decide +kernel
theorem prd_T_readName_6 : decode prb_T_readName 6 = .ok (.getfield 29, 3) := by decide +kernel
theorem prd_T_readName_9 : decode prb_T_readName 9 = .ok (.if_icmp .ge 23, 3) := by decide +kernel
theorem prd_T_readName_12 : decode prb_T_readName 12 = .ok (.aload_n 0, 1) := by decide +kernel
theorem prd_T_readName_13 : decode prb_T_readName 13 = .ok (.iload_n 3, 1) := by decide +kernel
theorem prd_T_readName_14 : decode prb_T_readName 14 = .ok (.invokevirtual 55, 3) := by decide +kernel
theorem prd_T_readName_17 : decode prb_T_readName 17 = .ok (.invokestatic 65, 3) := by decide +kernel
theorem prd_T_readName_20 : decode prb_T_readName 20 = .ok (.ifCond .eq 12, 3) := by decide +kernel
theorem prd_T_readName_23 : decode prb_T_readName 23 = .ok (.iinc 2 1, 3) := by decide +kernel
theorem prd_T_readName_26 : decode prb_T_readName 26 = .ok (.iinc 3 1, 3) := by decide +kernel
theorem prd_T_readName_29 : decode prb_T_readName 29 = .ok (.goto (-25), 3) := by decide +kernel
theorem prd_T_readName_32 : decode prb_T_readName 32 = .ok (.iload_n 2, 1) := by decide +kernel
theorem prd_T_readName_33 : decode prb_T_readName 33 = .ok (.bipush 30, 2) := by decide +kernel
theorem prd_T_readName_35 : decode prb_T_readName 35 = .ok (.if_icmp .le 5, 3) := by decide +kernel
theorem prd_T_readName_40 : decode prb_T_readName 40 = .ok (.aload_n 0, 1) := by decide +kernel
theorem prd_T_readName_41 : decode prb_T_readName 41 = .ok (.aload_n 0, 1) := by decide +kernel
theorem prd_T_readName_42 : decode prb_T_readName 42 = .ok (.iload_n 1, 1) := by decide +kernel
theorem prd_T_readName_43 : decode prb_T_readName 43 = .ok (.iload_n 2, 1) := by decide +kernel
theorem prd_T_readName_44 : decode prb_T_readName 44 = .ok (.invokevirtual 80, 3) := by decide +kernel
theorem prd_T_readName_47 : decode prb_T_readName 47 = .ok (.iload_n 1, 1) := by decide +kernel
theorem prd_T_readName_48 : decode prb_T_readName 48 = .ok (.iload_n 2, 1) := by decide +kernel
theorem prd_T_readName_49 : decode prb_T_readName 49 = .ok (.invokevirtual 42, 3) := by decide +kernel
theorem prd_T_readName_52 : decode prb_T_readName 52 = .ok (.iload_n 2, 1) := by decide +kernel
theorem prd_T_readName_53 : decode prb_T_readName 53 = .ok (.ireturn, 1) := by decide +kernel
theorem prd_T_readName_38 : decode prb_T_readName 38 = .ok (.iconst 0, 1) := by decide +kernel
theorem prd_T_readName_39 : decode prb_T_readName 39 = .ok (.ireturn, 1) := by decide +kernel
theorem prd_T_signOfTwo_0 : decode prb_T_signOfTwo 0 = .ok (.iload_n 1, 1) := by decide +kernel
theorem prd_T_signOfTwo_1 : decode prb_T_signOfTwo 1 = .ok (.bipush 61, 2) := by decide +kernel
theorem prd_T_signOfTwo_3 : decode prb_T_signOfTwo 3 = .ok (.if_icmp .ne 59, 3) := by decide +kernel
theorem prd_T_signOfTwo_62 : decode prb_T_signOfTwo 62 = .ok (.iload_n 0, 1) := by decide +kernel
theorem prd_T_signOfTwo_63 : decode prb_T_signOfTwo 63 = .ok (.bipush 38, 2) := by decide +kernel
theorem prd_T_signOfTwo_65 : decode prb_T_signOfTwo 65 = .ok (.if_icmp .ne 12, 3) := by decide +kernel
theorem prd_T_signOfTwo_77 : decode prb_T_signOfTwo 77 = .ok (.iload_n 0, 1) := by decide +kernel
theorem prd_T_signOfTwo_78 : decode prb_T_signOfTwo 78 = .ok (.bipush 124, 2) := by decide +kernel
theorem prd_T_signOfTwo_80 : decode prb_T_signOfTwo 80 = .ok (.if_icmp .ne 14, 3) := by decide +kernel
theorem prd_T_signOfTwo_94 : decode prb_T_signOfTwo 94 = .ok (.iconst 1, 1) := by decide +kernel
theorem prd_T_signOfTwo_95 : decode prb_T_signOfTwo 95 = .ok (.ireturn, 1) := by decide +kernel
theorem prd_T_signOfTwo_83 : decode prb_T_signOfTwo 83 = .ok (.iload_n 1, 1) := by decide +kernel
theorem prd_T_signOfTwo_84 : decode prb_T_signOfTwo 84 = .ok (.bipush 124, 2) := by decide +kernel
theorem prd_T_signOfTwo_86 : decode prb_T_signOfTwo 86 = .ok (.if_icmp .ne 8, 3) := by decide +kernel
theorem prd_T_signOfTwo_89 : decode prb_T_signOfTwo 89 = .ok (.bipush 33, 2) := by decide +kernel
theorem prd_T_signOfTwo_91 : decode prb_T_signOfTwo 91 = .ok (.goto 4, 3) := by decide +kernel
theorem prd_T_signOfTwo_68 : decode prb_T_signOfTwo 68 = .ok (.iload_n 1, 1) := by decide +kernel
theorem prd_T_signOfTwo_69 : decode prb_T_signOfTwo 69 = .ok (.bipush 38, 2) := by decide +kernel
theorem prd_T_signOfTwo_71 : decode prb_T_signOfTwo 71 = .ok (.if_icmp .ne 6, 3) := by decide +kernel
theorem prd_T_signOfTwo_74 : decode prb_T_signOfTwo 74 = .ok (.bipush 32, 2) := by decide +kernel
theorem prd_T_signOfTwo_76 : decode prb_T_signOfTwo 76 = .ok (.ireturn, 1) := by decide +kernel
theorem prd_T_signOfTwo_6 : decode prb_T_signOfTwo 6 = .ok (.iload_n 0, 1) := by decide +kernel
theorem prd_T_signOfTwo_7 : decode prb_T_signOfTwo 7 = .ok (.lookupswitch 53 #[(33, 50), (60, 41), (61, 47), (62, 44)], 41) := by decide +kernel
theorem prd_T_signOfTwo_57 : decode prb_T_signOfTwo 57 = .ok (.bipush 31, 2) := by decide +kernel
theorem prd_T_signOfTwo_59 : decode prb_T_signOfTwo 59 = .ok (.ireturn, 1) := by decide +kernel
theorem prd_T_signOfTwo_48 : decode prb_T_signOfTwo 48 = .ok (.bipush 27, 2) := by decide +kernel
theorem prd_T_signOfTwo_50 : decode prb_T_signOfTwo 50 = .ok (.ireturn, 1) := by decide +kernel
theorem prd_T_signOfTwo_54 : decode prb_T_signOfTwo 54 = .ok (.bipush 30, 2) := by decide +kernel
theorem prd_T_signOfTwo_56 : decode prb_T_signOfTwo 56 = .ok (.ireturn, 1) := by decide +kernel
theorem prd_T_signOfTwo_51 : decode prb_T_signOfTwo 51 = .ok (.bipush 29, 2) := by decide +kernel
theorem prd_T_signOfTwo_53 : decode prb_T_signOfTwo 53 = .ok (.ireturn, 1) := by decide +kernel
theorem prd_T_signOfTwo_60 : decode prb_T_signOfTwo 60 = .ok (.iconst 1, 1) := by decide +kernel
theorem prd_T_signOfTwo_61 : decode prb_T_signOfTwo 61 = .ok (.ireturn, 1) := by decide +kernel
theorem prd_T_signOfOne_0 : decode prb_T_signOfOne 0 = .ok (.iload_n 0, 1) := by decide +kernel
theorem prd_T_signOfOne_1 : decode prb_T_signOfOne 1 = .ok (.lookupswitch 198 #[(33, 195), (37, 186), (40, 147), (41, 150), (42, 180), (43, 174), (44, 165), (45, 177), (47, 183), (59, 168), (60, 189), (61, 171), (62, 192), (91, 159), (93, 162), (123, 153), (125, 156)], 147) := by decide +kernel
theorem prd_T_signOfOne_196 : decode prb_T_signOfOne 196 = .ok (.bipush 34, 2) := by decide +kernel
theorem prd_T_signOfOne_198 : decode prb_T_signOfOne 198 = .ok (.ireturn, 1) := by decide +kernel
theorem prd_T_signOfOne_187 : decode prb_T_signOfOne 187 = .ok (.bipush 25, 2) := by decide +kernel
theorem prd_T_signOfOne_189 : decode prb_T_signOfOne 189 = .ok (.ireturn, 1) := by decide +kernel
theorem prd_T_signOfOne_148 : decode prb_T_signOfOne 148 = .ok (.bipush 12, 2) := by decide +kernel
theorem prd_T_signOfOne_150 : decode prb_T_signOfOne 150 = .ok (.ireturn, 1) := by decide +kernel
theorem prd_T_signOfOne_151 : decode prb_T_signOfOne 151 = .ok (.bipush 13, 2) := by decide +kernel
theorem prd_T_signOfOne_153 : decode prb_T_signOfOne 153 = .ok (.ireturn, 1) := by decide +kernel
theorem prd_T_signOfOne_181 : decode prb_T_signOfOne 181 = .ok (.bipush 23, 2) := by decide +kernel
theorem prd_T_signOfOne_183 : decode prb_T_signOfOne 183 = .ok (.ireturn, 1) := by decide +kernel
theorem prd_T_signOfOne_175 : decode prb_T_signOfOne 175 = .ok (.bipush 21, 2) := by decide +kernel
theorem prd_T_signOfOne_177 : decode prb_T_signOfOne 177 = .ok (.ireturn, 1) := by decide +kernel
theorem prd_T_signOfOne_166 : decode prb_T_signOfOne 166 = .ok (.bipush 18, 2) := by decide +kernel
theorem prd_T_signOfOne_168 : decode prb_T_signOfOne 168 = .ok (.ireturn, 1) := by decide +kernel
theorem prd_T_signOfOne_178 : decode prb_T_signOfOne 178 = .ok (.bipush 22, 2) := by decide +kernel
theorem prd_T_signOfOne_180 : decode prb_T_signOfOne 180 = .ok (.ireturn, 1) := by decide +kernel
theorem prd_T_signOfOne_184 : decode prb_T_signOfOne 184 = .ok (.bipush 24, 2) := by decide +kernel
theorem prd_T_signOfOne_186 : decode prb_T_signOfOne 186 = .ok (.ireturn, 1) := by decide +kernel
theorem prd_T_signOfOne_169 : decode prb_T_signOfOne 169 = .ok (.bipush 19, 2) := by decide +kernel
theorem prd_T_signOfOne_171 : decode prb_T_signOfOne 171 = .ok (.ireturn, 1) := by decide +kernel
theorem prd_T_signOfOne_190 : decode prb_T_signOfOne 190 = .ok (.bipush 26, 2) := by decide +kernel
theorem prd_T_signOfOne_192 : decode prb_T_signOfOne 192 = .ok (.ireturn, 1) := by decide +kernel
theorem prd_T_signOfOne_172 : decode prb_T_signOfOne 172 = .ok (.bipush 20, 2) := by decide +kernel
theorem prd_T_signOfOne_174 : decode prb_T_signOfOne 174 = .ok (.ireturn, 1) := by decide +kernel
theorem prd_T_signOfOne_193 : decode prb_T_signOfOne 193 = .ok (.bipush 28, 2) := by decide +kernel
theorem prd_T_signOfOne_195 : decode prb_T_signOfOne 195 = .ok (.ireturn, 1) := by decide +kernel
theorem prd_T_signOfOne_160 : decode prb_T_signOfOne 160 = .ok (.bipush 16, 2) := by decide +kernel
theorem prd_T_signOfOne_162 : decode prb_T_signOfOne 162 = .ok (.ireturn, 1) := by decide +kernel
theorem prd_T_signOfOne_163 : decode prb_T_signOfOne 163 = .ok (.bipush 17, 2) := by decide +kernel
theorem prd_T_signOfOne_165 : decode prb_T_signOfOne 165 = .ok (.ireturn, 1) := by decide +kernel
theorem prd_T_signOfOne_154 : decode prb_T_signOfOne 154 = .ok (.bipush 14, 2) := by decide +kernel
theorem prd_T_signOfOne_156 : decode prb_T_signOfOne 156 = .ok (.ireturn, 1) := by decide +kernel
theorem prd_T_signOfOne_157 : decode prb_T_signOfOne 157 = .ok (.bipush 15, 2) := by decide +kernel
theorem prd_T_signOfOne_159 : decode prb_T_signOfOne 159 = .ok (.ireturn, 1) := by decide +kernel
theorem prd_T_signOfOne_199 : decode prb_T_signOfOne 199 = .ok (.iconst 1, 1) := by decide +kernel
theorem prd_T_signOfOne_200 : decode prb_T_signOfOne 200 = .ok (.ireturn, 1) := by decide +kernel
theorem prd_T_readSign_0 : decode prb_T_readSign 0 = .ok (.aload_n 0, 1) := by decide +kernel
theorem prd_T_readSign_1 : decode prb_T_readSign 1 = .ok (.iload_n 1, 1) := by decide +kernel
theorem prd_T_readSign_2 : decode prb_T_readSign 2 = .ok (.invokevirtual 55, 3) := by decide +kernel
theorem prd_T_readSign_5 : decode prb_T_readSign 5 = .ok (.istore_n 2, 1) := by decide +kernel
theorem prd_T_readSign_6 : decode prb_T_readSign 6 = .ok (.iload_n 2, 1) := by decide +kernel
theorem prd_T_readSign_7 : decode prb_T_readSign 7 = .ok (.aload_n 0, 1) := by decide +kernel
theorem prd_T_readSign_8 : decode prb_T_readSign 8 = .ok (.iload_n 1, 1) := by decide +kernel
theorem prd_T_readSign_9 : decode prb_T_readSign 9 = .ok (.iconst 1, 1) := by decide +kernel
theorem prd_T_readSign_10 : decode prb_T_readSign 10 = .ok (.iadd, 1) := by decide +kernel
theorem prd_T_readSign_11 : decode prb_T_readSign 11 = .ok (.invokevirtual 55, 3) := by decide +kernel
theorem prd_T_readSign_14 : decode prb_T_readSign 14 = .ok (.invokestatic 88, 3) := by decide +kernel
theorem prd_T_readSign_17 : decode prb_T_readSign 17 = .ok (.istore_n 3, 1) := by decide +kernel
theorem prd_T_readSign_18 : decode prb_T_readSign 18 = .ok (.iload_n 3, 1) := by decide +kernel
theorem prd_T_readSign_19 : decode prb_T_readSign 19 = .ok (.iconst 1, 1) := by decide +kernel
theorem prd_T_readSign_20 : decode prb_T_readSign 20 = .ok (.if_icmp .eq 12, 3) := by decide +kernel
theorem prd_T_readSign_32 : decode prb_T_readSign 32 = .ok (.iload_n 2, 1) := by decide +kernel
theorem prd_T_readSign_33 : decode prb_T_readSign 33 = .ok (.invokestatic 91, 3) := by decide +kernel
theorem prd_T_readSign_36 : decode prb_T_readSign 36 = .ok (.istore_n 3, 1) := by decide +kernel
theorem prd_T_readSign_37 : decode prb_T_readSign 37 = .ok (.iload_n 3, 1) := by decide +kernel
theorem prd_T_readSign_38 : decode prb_T_readSign 38 = .ok (.iconst 1, 1) := by decide +kernel
theorem prd_T_readSign_39 : decode prb_T_readSign 39 = .ok (.if_icmp .ne 5, 3) := by decide +kernel
theorem prd_T_readSign_44 : decode prb_T_readSign 44 = .ok (.aload_n 0, 1) := by decide +kernel
theorem prd_T_readSign_45 : decode prb_T_readSign 45 = .ok (.iload_n 3, 1) := by decide +kernel
theorem prd_T_readSign_46 : decode prb_T_readSign 46 = .ok (.iload_n 1, 1) := by decide +kernel
theorem prd_T_readSign_47 : decode prb_T_readSign 47 = .ok (.iconst 0, 1) := by decide +kernel
theorem prd_T_readSign_48 : decode prb_T_readSign 48 = .ok (.invokevirtual 42, 3) := by decide +kernel
theorem prd_T_readSign_51 : decode prb_T_readSign 51 = .ok (.iconst 1, 1) := by decide +kernel
theorem prd_T_readSign_52 : decode prb_T_readSign 52 = .ok (.ireturn, 1) := by decide +kernel
theorem prd_T_readSign_42 : decode prb_T_readSign 42 = .ok (.iconst 0, 1) := by decide +kernel
theorem prd_T_readSign_43 : decode prb_T_readSign 43 = .ok (.ireturn, 1) := by decide +kernel
theorem prd_T_readSign_23 : decode prb_T_readSign 23 = .ok (.aload_n 0, 1) := by decide +kernel
theorem prd_T_readSign_24 : decode prb_T_readSign 24 = .ok (.iload_n 3, 1) := by decide +kernel
theorem prd_T_readSign_25 : decode prb_T_readSign 25 = .ok (.iload_n 1, 1) := by decide +kernel
theorem prd_T_readSign_26 : decode prb_T_readSign 26 = .ok (.iconst 0, 1) := by decide +kernel
theorem prd_T_readSign_27 : decode prb_T_readSign 27 = .ok (.invokevirtual 42, 3) := by decide +kernel
theorem prd_T_readSign_30 : decode prb_T_readSign 30 = .ok (.iconst 2, 1) := by decide +kernel
theorem prd_T_readSign_31 : decode prb_T_readSign 31 = .ok (.ireturn, 1) := by decide +kernel
theorem prd_T_readToken_0 : decode prb_T_readToken 0 = .ok (.aload_n 0, 1) := by decide +kernel
theorem prd_T_readToken_1 : decode prb_T_readToken 1 = .ok (.iload_n 1, 1) := by decide +kernel
theorem prd_T_readToken_2 : decode prb_T_readToken 2 = .ok (.invokevirtual 55, 3) := by decide +kernel
theorem prd_T_readToken_5 : decode prb_T_readToken 5 = .ok (.istore_n 2, 1) := by decide +kernel
theorem prd_T_readToken_6 : decode prb_T_readToken 6 = .ok (.iload_n 2, 1) := by decide +kernel
theorem prd_T_readToken_7 : decode prb_T_readToken 7 = .ok (.invokestatic 58, 3) := by decide +kernel
theorem prd_T_readToken_10 : decode prb_T_readToken 10 = .ok (.ifCond .eq 9, 3) := by decide +kernel
theorem prd_T_readToken_19 : decode prb_T_readToken 19 = .ok (.iload_n 2, 1) := by decide +kernel
theorem prd_T_readToken_20 : decode prb_T_readToken 20 = .ok (.invokestatic 65, 3) := by decide +kernel
theorem prd_T_readToken_23 : decode prb_T_readToken 23 = .ok (.ifCond .eq 9, 3) := by decide +kernel
theorem prd_T_readToken_32 : decode prb_T_readToken 32 = .ok (.aload_n 0, 1) := by decide +kernel
theorem prd_T_readToken_33 : decode prb_T_readToken 33 = .ok (.iload_n 1, 1) := by decide +kernel
theorem prd_T_readToken_34 : decode prb_T_readToken 34 = .ok (.invokevirtual 71, 3) := by decide +kernel
theorem prd_T_readToken_37 : decode prb_T_readToken 37 = .ok (.ireturn, 1) := by decide +kernel
theorem prd_T_readToken_26 : decode prb_T_readToken 26 = .ok (.aload_n 0, 1) := by decide +kernel
theorem prd_T_readToken_27 : decode prb_T_readToken 27 = .ok (.iload_n 1, 1) := by decide +kernel
theorem prd_T_readToken_28 : decode prb_T_readToken 28 = .ok (.invokevirtual 68, 3) := by decide +kernel
theorem prd_T_readToken_31 : decode prb_T_readToken 31 = .ok (.ireturn, 1) := by decide +kernel
theorem prd_T_readToken_13 : decode prb_T_readToken 13 = .ok (.aload_n 0, 1) := by decide +kernel
theorem prd_T_readToken_14 : decode prb_T_readToken 14 = .ok (.iload_n 1, 1) := by decide +kernel
theorem prd_T_readToken_15 : decode prb_T_readToken 15 = .ok (.invokevirtual 62, 3) := by decide +kernel
theorem prd_T_readToken_18 : decode prb_T_readToken 18 = .ok (.ireturn, 1) := by decide +kernel
theorem prd_T_readText_0 : decode prb_T_readText 0 = .ok (.aload_n 0, 1) := by decide +kernel
theorem prd_T_readText_1 : decode prb_T_readText 1 = .ok (.iconst 0, 1) := by decide +kernel
theorem prd_T_readText_2 : decode prb_T_readText 2 = .ok (.putfield 25, 3) := by decide +kernel
theorem prd_T_readText_5 : decode prb_T_readText 5 = .ok (.aload_n 0, 1) := by decide +kernel
theorem prd_T_readText_6 : decode prb_T_readText 6 = .ok (.iload_n 1, 1) := by decide +kernel
theorem prd_T_readText_7 : decode prb_T_readText 7 = .ok (.putfield 29, 3) := by decide +kernel
theorem prd_T_readText_10 : decode prb_T_readText 10 = .ok (.aload_n 0, 1) := by decide +kernel
theorem prd_T_readText_11 : decode prb_T_readText 11 = .ok (.iconst 0, 1) := by decide +kernel
theorem prd_T_readText_12 : decode prb_T_readText 12 = .ok (.putfield 32, 3) := by decide +kernel
theorem prd_T_readText_15 : decode prb_T_readText 15 = .ok (.aload_n 0, 1) := by decide +kernel
theorem prd_T_readText_16 : decode prb_T_readText 16 = .ok (.iconst 0, 1) := by decide +kernel
theorem prd_T_readText_17 : decode prb_T_readText 17 = .ok (.invokevirtual 35, 3) := by decide +kernel
theorem prd_T_readText_20 : decode prb_T_readText 20 = .ok (.istore_n 2, 1) := by decide +kernel
theorem prd_T_readText_21 : decode prb_T_readText 21 = .ok (.iconst 0, 1) := by decide +kernel
theorem prd_T_readText_22 : decode prb_T_readText 22 = .ok (.istore_n 3, 1) := by decide +kernel
theorem prd_T_readText_23 : decode prb_T_readText 23 = .ok (.iload_n 3, 1) := by decide +kernel
theorem prd_T_readText_24 : decode prb_T_readText 24 = .ok (.sipush 8000, 3) := by decide +kernel
theorem prd_T_readText_27 : decode prb_T_readText 27 = .ok (.if_icmp .ge 46, 3) := by decide +kernel
theorem prd_T_readText_73 : decode prb_T_readText 73 = .ok (.aload_n 0, 1) := by decide +kernel
theorem prd_T_readText_74 : decode prb_T_readText 74 = .ok (.iconst 0, 1) := by decide +kernel
theorem prd_T_readText_75 : decode prb_T_readText 75 = .ok (.aload_n 0, 1) := by decide +kernel
theorem prd_T_readText_76 : decode prb_T_readText 76 = .ok (.getfield 29, 3) := by decide +kernel
theorem prd_T_readText_79 : decode prb_T_readText 79 = .ok (.iconst 0, 1) := by decide +kernel
theorem prd_T_readText_80 : decode prb_T_readText 80 = .ok (.invokevirtual 42, 3) := by decide +kernel
theorem prd_T_readText_83 : decode prb_T_readText 83 = .ok (.return_, 1) := by decide +kernel
theorem prd_T_readText_30 : decode prb_T_readText 30 = .ok (.iload_n 2, 1) := by decide +kernel
theorem prd_T_readText_31 : decode prb_T_readText 31 = .ok (.aload_n 0, 1) := by decide +kernel
theorem prd_T_readText_32 : decode prb_T_readText 32 = .ok (.getfield 29, 3) := by decide +kernel
theorem prd_T_readText_35 : decode prb_T_readText 35 = .ok (.if_icmp .ge 38, 3) := by decide +kernel
theorem prd_T_readText_38 : decode prb_T_readText 38 = .ok (.aload_n 0, 1) := by decide +kernel
theorem prd_T_readText_39 : decode prb_T_readText 39 = .ok (.iload_n 2, 1) := by decide +kernel
theorem prd_T_readText_40 : decode prb_T_readText 40 = .ok (.invokevirtual 39, 3) := by decide +kernel
theorem prd_T_readText_43 : decode prb_T_readText 43 = .ok (.istore 4, 2) := by decide +kernel
theorem prd_T_readText_45 : decode prb_T_readText 45 = .ok (.iload 4, 2) := by decide +kernel
theorem prd_T_readText_47 : decode prb_T_readText 47 = .ok (.ifCond .ne 11, 3) := by decide +kernel
theorem prd_T_readText_58 : decode prb_T_readText 58 = .ok (.aload_n 0, 1) := by decide +kernel
theorem prd_T_readText_59 : decode prb_T_readText 59 = .ok (.iload_n 2, 1) := by decide +kernel
theorem prd_T_readText_60 : decode prb_T_readText 60 = .ok (.iload 4, 2) := by decide +kernel
theorem prd_T_readText_62 : decode prb_T_readText 62 = .ok (.iadd, 1) := by decide +kernel
theorem prd_T_readText_63 : decode prb_T_readText 63 = .ok (.invokevirtual 35, 3) := by decide +kernel
theorem prd_T_readText_66 : decode prb_T_readText 66 = .ok (.istore_n 2, 1) := by decide +kernel
theorem prd_T_readText_67 : decode prb_T_readText 67 = .ok (.iinc 3 1, 3) := by decide +kernel
theorem prd_T_readText_70 : decode prb_T_readText 70 = .ok (.goto (-47), 3) := by decide +kernel
theorem prd_T_readText_50 : decode prb_T_readText 50 = .ok (.aload_n 0, 1) := by decide +kernel
theorem prd_T_readText_51 : decode prb_T_readText 51 = .ok (.iconst 1, 1) := by decide +kernel
theorem prd_T_readText_52 : decode prb_T_readText 52 = .ok (.iload_n 2, 1) := by decide +kernel
theorem prd_T_readText_53 : decode prb_T_readText 53 = .ok (.iconst 0, 1) := by decide +kernel
theorem prd_T_readText_54 : decode prb_T_readText 54 = .ok (.invokevirtual 42, 3) := by decide +kernel
theorem prd_T_readText_57 : decode prb_T_readText 57 = .ok (.return_, 1) := by decide +kernel
theorem prd_T_kindAt_0 : decode prb_T_kindAt 0 = .ok (.iload_n 1, 1) := by decide +kernel
theorem prd_T_kindAt_1 : decode prb_T_kindAt 1 = .ok (.ifCond .lt 20, 3) := by decide +kernel
theorem prd_T_kindAt_21 : decode prb_T_kindAt 21 = .ok (.iconst 0, 1) := by decide +kernel
theorem prd_T_kindAt_22 : decode prb_T_kindAt 22 = .ok (.ireturn, 1) := by decide +kernel
theorem prd_T_kindAt_4 : decode prb_T_kindAt 4 = .ok (.iload_n 1, 1) := by decide +kernel
theorem prd_T_kindAt_5 : decode prb_T_kindAt 5 = .ok (.aload_n 0, 1) := by decide +kernel
theorem prd_T_kindAt_6 : decode prb_T_kindAt 6 = .ok (.getfield 32, 3) := by decide +kernel
theorem prd_T_kindAt_9 : decode prb_T_kindAt 9 = .ok (.if_icmp .ge 12, 3) := by decide +kernel
theorem prd_T_kindAt_12 : decode prb_T_kindAt 12 = .ok (.aload_n 0, 1) := by decide +kernel
theorem prd_T_kindAt_13 : decode prb_T_kindAt 13 = .ok (.getfield 15, 3) := by decide +kernel
theorem prd_T_kindAt_16 : decode prb_T_kindAt 16 = .ok (.iload_n 1, 1) := by decide +kernel
theorem prd_T_kindAt_17 : decode prb_T_kindAt 17 = .ok (.baload, 1) := by decide +kernel
theorem prd_T_kindAt_18 : decode prb_T_kindAt 18 = .ok (.goto 4, 3) := by decide +kernel
theorem prd_T_placeAt_0 : decode prb_T_placeAt 0 = .ok (.iload_n 1, 1) := by decide +kernel
theorem prd_T_placeAt_1 : decode prb_T_placeAt 1 = .ok (.ifCond .lt 20, 3) := by decide +kernel
theorem prd_T_placeAt_21 : decode prb_T_placeAt 21 = .ok (.aload_n 0, 1) := by decide +kernel
theorem prd_T_placeAt_22 : decode prb_T_placeAt 22 = .ok (.getfield 29, 3) := by decide +kernel
theorem prd_T_placeAt_25 : decode prb_T_placeAt 25 = .ok (.ireturn, 1) := by decide +kernel
theorem prd_T_placeAt_4 : decode prb_T_placeAt 4 = .ok (.iload_n 1, 1) := by decide +kernel
theorem prd_T_placeAt_5 : decode prb_T_placeAt 5 = .ok (.aload_n 0, 1) := by decide +kernel
theorem prd_T_placeAt_6 : decode prb_T_placeAt 6 = .ok (.getfield 32, 3) := by decide +kernel
theorem prd_T_placeAt_9 : decode prb_T_placeAt 9 = .ok (.if_icmp .ge 12, 3) := by decide +kernel
theorem prd_T_placeAt_12 : decode prb_T_placeAt 12 = .ok (.aload_n 0, 1) := by decide +kernel
theorem prd_T_placeAt_13 : decode prb_T_placeAt 13 = .ok (.getfield 18, 3) := by decide +kernel
theorem prd_T_placeAt_16 : decode prb_T_placeAt 16 = .ok (.iload_n 1, 1) := by decide +kernel
theorem prd_T_placeAt_17 : decode prb_T_placeAt 17 = .ok (.iaload, 1) := by decide +kernel
theorem prd_T_placeAt_18 : decode prb_T_placeAt 18 = .ok (.goto 7, 3) := by decide +kernel
theorem prd_T_valueAt_0 : decode prb_T_valueAt 0 = .ok (.iload_n 1, 1) := by decide +kernel
theorem prd_T_valueAt_1 : decode prb_T_valueAt 1 = .ok (.ifCond .lt 20, 3) := by decide +kernel
theorem prd_T_valueAt_21 : decode prb_T_valueAt 21 = .ok (.iconst 0, 1) := by decide +kernel
theorem prd_T_valueAt_22 : decode prb_T_valueAt 22 = .ok (.ireturn, 1) := by decide +kernel
theorem prd_T_valueAt_4 : decode prb_T_valueAt 4 = .ok (.iload_n 1, 1) := by decide +kernel
theorem prd_T_valueAt_5 : decode prb_T_valueAt 5 = .ok (.aload_n 0, 1) := by decide +kernel
theorem prd_T_valueAt_6 : decode prb_T_valueAt 6 = .ok (.getfield 32, 3) := by decide +kernel
theorem prd_T_valueAt_9 : decode prb_T_valueAt 9 = .ok (.if_icmp .ge 12, 3) := by decide +kernel
theorem prd_T_valueAt_12 : decode prb_T_valueAt 12 = .ok (.aload_n 0, 1) := by decide +kernel
theorem prd_T_valueAt_13 : decode prb_T_valueAt 13 = .ok (.getfield 22, 3) := by decide +kernel
theorem prd_T_valueAt_16 : decode prb_T_valueAt 16 = .ok (.iload_n 1, 1) := by decide +kernel
theorem prd_T_valueAt_17 : decode prb_T_valueAt 17 = .ok (.iaload, 1) := by decide +kernel
theorem prd_T_valueAt_18 : decode prb_T_valueAt 18 = .ok (.goto 4, 3) := by decide +kernel
theorem prd_T_sameName_0 : decode prb_T_sameName 0 = .ok (.aload_n 0, 1) := by decide +kernel
theorem prd_T_sameName_1 : decode prb_T_sameName 1 = .ok (.iload_n 1, 1) := by decide +kernel
theorem prd_T_sameName_2 : decode prb_T_sameName 2 = .ok (.invokevirtual 49, 3) := by decide +kernel
theorem prd_T_sameName_5 : decode prb_T_sameName 5 = .ok (.istore_n 3, 1) := by decide +kernel
theorem prd_T_sameName_6 : decode prb_T_sameName 6 = .ok (.aload_n 0, 1) := by decide +kernel
theorem prd_T_sameName_7 : decode prb_T_sameName 7 = .ok (.iload_n 1, 1) := by decide +kernel
theorem prd_T_sameName_8 : decode prb_T_sameName 8 = .ok (.invokevirtual 52, 3) := by decide +kernel
theorem prd_T_sameName_11 : decode prb_T_sameName 11 = .ok (.istore 4, 2) := by decide +kernel
theorem prd_T_sameName_13 : decode prb_T_sameName 13 = .ok (.aload_n 0, 1) := by decide +kernel
theorem prd_T_sameName_14 : decode prb_T_sameName 14 = .ok (.iload_n 2, 1) := by decide +kernel
theorem prd_T_sameName_15 : decode prb_T_sameName 15 = .ok (.invokevirtual 52, 3) := by decide +kernel
theorem prd_T_sameName_18 : decode prb_T_sameName 18 = .ok (.istore 5, 2) := by decide +kernel
theorem prd_T_sameName_20 : decode prb_T_sameName 20 = .ok (.iload_n 3, 1) := by decide +kernel
theorem prd_T_sameName_21 : decode prb_T_sameName 21 = .ok (.aload_n 0, 1) := by decide +kernel
theorem prd_T_sameName_22 : decode prb_T_sameName 22 = .ok (.iload_n 2, 1) := by decide +kernel
theorem prd_T_sameName_23 : decode prb_T_sameName 23 = .ok (.invokevirtual 49, 3) := by decide +kernel
theorem prd_T_sameName_26 : decode prb_T_sameName 26 = .ok (.if_icmp .ne 31, 3) := by decide +kernel
theorem prd_T_sameName_57 : decode prb_T_sameName 57 = .ok (.iconst 0, 1) := by decide +kernel
theorem prd_T_sameName_58 : decode prb_T_sameName 58 = .ok (.istore 6, 2) := by decide +kernel
theorem prd_T_sameName_60 : decode prb_T_sameName 60 = .ok (.iconst 0, 1) := by decide +kernel
theorem prd_T_sameName_61 : decode prb_T_sameName 61 = .ok (.istore 7, 2) := by decide +kernel
theorem prd_T_sameName_29 : decode prb_T_sameName 29 = .ok (.iload 4, 2) := by decide +kernel
theorem prd_T_sameName_31 : decode prb_T_sameName 31 = .ok (.iload_n 3, 1) := by decide +kernel
theorem prd_T_sameName_32 : decode prb_T_sameName 32 = .ok (.iadd, 1) := by decide +kernel
theorem prd_T_sameName_33 : decode prb_T_sameName 33 = .ok (.aload_n 0, 1) := by decide +kernel
theorem prd_T_sameName_34 : decode prb_T_sameName 34 = .ok (.getfield 9, 3) := by decide +kernel
theorem prd_T_sameName_37 : decode prb_T_sameName 37 = .ok (.arraylength, 1) := by decide +kernel
theorem prd_T_sameName_38 : decode prb_T_sameName 38 = .ok (.if_icmp .gt 19, 3) := by decide +kernel
theorem prd_T_sameName_41 : decode prb_T_sameName 41 = .ok (.iload 5, 2) := by decide +kernel
theorem prd_T_sameName_43 : decode prb_T_sameName 43 = .ok (.iload_n 3, 1) := by decide +kernel
theorem prd_T_sameName_44 : decode prb_T_sameName 44 = .ok (.iadd, 1) := by decide +kernel
theorem prd_T_sameName_45 : decode prb_T_sameName 45 = .ok (.aload_n 0, 1) := by decide +kernel
theorem prd_T_sameName_46 : decode prb_T_sameName 46 = .ok (.getfield 9, 3) := by decide +kernel
theorem prd_T_sameName_49 : decode prb_T_sameName 49 = .ok (.arraylength, 1) := by decide +kernel
theorem prd_T_sameName_50 : decode prb_T_sameName 50 = .ok (.if_icmp .gt 7, 3) := by decide +kernel
theorem prd_T_sameName_53 : decode prb_T_sameName 53 = .ok (.iconst 1, 1) := by decide +kernel
theorem prd_T_sameName_54 : decode prb_T_sameName 54 = .ok (.goto 4, 3) := by decide +kernel
theorem prd_T_sameName_63 : decode prb_T_sameName 63 = .ok (.iload 7, 2) := by decide +kernel
theorem prd_T_sameName_65 : decode prb_T_sameName 65 = .ok (.iload_n 3, 1) := by decide +kernel
theorem prd_T_sameName_66 : decode prb_T_sameName 66 = .ok (.if_icmp .ge 44, 3) := by decide +kernel
theorem prd_T_sameName_110 : decode prb_T_sameName 110 = .ok (.iload 6, 2) := by decide +kernel
theorem prd_T_sameName_112 : decode prb_T_sameName 112 = .ok (.ireturn, 1) := by decide +kernel
theorem prd_T_sameName_69 : decode prb_T_sameName 69 = .ok (.iload 6, 2) := by decide +kernel
theorem prd_T_sameName_71 : decode prb_T_sameName 71 = .ok (.ifCond .eq 39, 3) := by decide +kernel
theorem prd_T_sameName_74 : decode prb_T_sameName 74 = .ok (.aload_n 0, 1) := by decide +kernel
theorem prd_T_sameName_75 : decode prb_T_sameName 75 = .ok (.getfield 9, 3) := by decide +kernel
theorem prd_T_sameName_78 : decode prb_T_sameName 78 = .ok (.iload 4, 2) := by decide +kernel
theorem prd_T_sameName_80 : decode prb_T_sameName 80 = .ok (.iload 7, 2) := by decide +kernel
theorem prd_T_sameName_82 : decode prb_T_sameName 82 = .ok (.iadd, 1) := by decide +kernel
theorem prd_T_sameName_83 : decode prb_T_sameName 83 = .ok (.baload, 1) := by decide +kernel
theorem prd_T_sameName_84 : decode prb_T_sameName 84 = .ok (.aload_n 0, 1) := by decide +kernel
theorem prd_T_sameName_85 : decode prb_T_sameName 85 = .ok (.getfield 9, 3) := by decide +kernel
theorem prd_T_sameName_88 : decode prb_T_sameName 88 = .ok (.iload 5, 2) := by decide +kernel
theorem prd_T_sameName_90 : decode prb_T_sameName 90 = .ok (.iload 7, 2) := by decide +kernel
theorem prd_T_sameName_92 : decode prb_T_sameName 92 = .ok (.iadd, 1) := by decide +kernel
theorem prd_T_sameName_93 : decode prb_T_sameName 93 = .ok (.baload, 1) := by decide +kernel
theorem prd_T_sameName_94 : decode prb_T_sameName 94 = .ok (.if_icmp .ne 7, 3) := by decide +kernel
theorem prd_T_sameName_101 : decode prb_T_sameName 101 = .ok (.iconst 0, 1) := by decide +kernel
theorem prd_T_sameName_102 : decode prb_T_sameName 102 = .ok (.istore 6, 2) := by decide +kernel
theorem prd_T_sameName_104 : decode prb_T_sameName 104 = .ok (.iinc 7 1, 3) := by decide +kernel
theorem prd_T_sameName_107 : decode prb_T_sameName 107 = .ok (.goto (-44), 3) := by decide +kernel
theorem prd_T_sameName_97 : decode prb_T_sameName 97 = .ok (.iconst 1, 1) := by decide +kernel
theorem prd_T_sameName_98 : decode prb_T_sameName 98 = .ok (.goto 4, 3) := by decide +kernel
theorem prd_T_count_0 : decode prb_T_count 0 = .ok (.aload_n 0, 1) := by decide +kernel
theorem prd_T_count_1 : decode prb_T_count 1 = .ok (.getfield 32, 3) := by decide +kernel
theorem prd_T_count_4 : decode prb_T_count 4 = .ok (.ireturn, 1) := by decide +kernel
theorem prd_T_secondLimit_0 : decode prb_T_secondLimit 0 = .ok (.iload_n 1, 1) := by decide +kernel
theorem prd_T_secondLimit_1 : decode prb_T_secondLimit 1 = .ok (.aload_n 0, 1) := by decide +kernel
theorem prd_T_secondLimit_2 : decode prb_T_secondLimit 2 = .ok (.iload_n 1, 1) := by decide +kernel
theorem prd_T_secondLimit_3 : decode prb_T_secondLimit 3 = .ok (.invokevirtual 46, 3) := by decide +kernel
theorem prd_T_secondLimit_6 : decode prb_T_secondLimit 6 = .ok (.bipush 22, 2) := by decide +kernel
theorem prd_T_secondLimit_8 : decode prb_T_secondLimit 8 = .ok (.if_icmp .ne 7, 3) := by decide +kernel
theorem prd_T_secondLimit_15 : decode prb_T_secondLimit 15 = .ok (.iconst 2, 1) := by decide +kernel
theorem prd_T_secondLimit_16 : decode prb_T_secondLimit 16 = .ok (.iadd, 1) := by decide +kernel
theorem prd_T_secondLimit_17 : decode prb_T_secondLimit 17 = .ok (.ireturn, 1) := by decide +kernel
theorem prd_T_secondLimit_11 : decode prb_T_secondLimit 11 = .ok (.iconst 3, 1) := by decide +kernel
theorem prd_T_secondLimit_12 : decode prb_T_secondLimit 12 = .ok (.goto 4, 3) := by decide +kernel
theorem prd_T_limitAt_0 : decode prb_T_limitAt 0 = .ok (.aload_n 0, 1) := by decide +kernel
theorem prd_T_limitAt_1 : decode prb_T_limitAt 1 = .ok (.iload_n 1, 1) := by decide +kernel
theorem prd_T_limitAt_2 : decode prb_T_limitAt 2 = .ok (.invokevirtual 46, 3) := by decide +kernel
theorem prd_T_limitAt_5 : decode prb_T_limitAt 5 = .ok (.bipush 22, 2) := by decide +kernel
theorem prd_T_limitAt_7 : decode prb_T_limitAt 7 = .ok (.if_icmp .ne 14, 3) := by decide +kernel
theorem prd_T_limitAt_21 : decode prb_T_limitAt 21 = .ok (.aload_n 0, 1) := by decide +kernel
theorem prd_T_limitAt_22 : decode prb_T_limitAt 22 = .ok (.iload_n 1, 1) := by decide +kernel
theorem prd_T_limitAt_23 : decode prb_T_limitAt 23 = .ok (.invokevirtual 49, 3) := by decide +kernel
theorem prd_T_limitAt_26 : decode prb_T_limitAt 26 = .ok (.ireturn, 1) := by decide +kernel
theorem prd_T_limitAt_10 : decode prb_T_limitAt 10 = .ok (.aload_n 0, 1) := by decide +kernel
theorem prd_T_limitAt_11 : decode prb_T_limitAt 11 = .ok (.iload_n 1, 1) := by decide +kernel
theorem prd_T_limitAt_12 : decode prb_T_limitAt 12 = .ok (.iconst 1, 1) := by decide +kernel
theorem prd_T_limitAt_13 : decode prb_T_limitAt 13 = .ok (.iadd, 1) := by decide +kernel
theorem prd_T_limitAt_14 : decode prb_T_limitAt 14 = .ok (.invokevirtual 49, 3) := by decide +kernel
theorem prd_T_limitAt_17 : decode prb_T_limitAt 17 = .ok (.ineg, 1) := by decide +kernel
theorem prd_T_limitAt_18 : decode prb_T_limitAt 18 = .ok (.goto 8, 3) := by decide +kernel

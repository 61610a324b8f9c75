/-! DECODE ROWS -/
theorem prd_X_nothing_0 : decode prb_X_nothing 0 = .ok (.aload_n 0, 1) := by decide +kernel
theorem prd_X_nothing_1 : decode prb_X_nothing 1 = .ok (.iconst 1, 1) := by decide +kernel
theorem prd_X_nothing_2 : decode prb_X_nothing 2 = .ok (.putfield 148, 3) := by decide +kernel
theorem prd_X_nothing_5 : decode prb_X_nothing 5 = .ok (.aload_n 0, 1) := by decide +kernel
theorem prd_X_nothing_6 : decode prb_X_nothing 6 = .ok (.getfield 68, 3) := by decide +kernel
theorem prd_X_nothing_9 : decode prb_X_nothing 9 = .ok (.iconst 0, 1) := by decide +kernel
theorem prd_X_nothing_10 : decode prb_X_nothing 10 = .ok (.iconst (-1), 1) := by decide +kernel
theorem prd_X_nothing_11 : decode prb_X_nothing 11 = .ok (.iastore, 1) := by decide +kernel
theorem prd_X_nothing_12 : decode prb_X_nothing 12 = .ok (.aload_n 0, 1) := by decide +kernel
theorem prd_X_nothing_13 : decode prb_X_nothing 13 = .ok (.getfield 71, 3) := by decide +kernel
theorem prd_X_nothing_16 : decode prb_X_nothing 16 = .ok (.iconst 0, 1) := by decide +kernel
theorem prd_X_nothing_17 : decode prb_X_nothing 17 = .ok (.iconst (-1), 1) := by decide +kernel
theorem prd_X_nothing_18 : decode prb_X_nothing 18 = .ok (.iastore, 1) := by decide +kernel
theorem prd_X_nothing_19 : decode prb_X_nothing 19 = .ok (.aload_n 0, 1) := by decide +kernel
theorem prd_X_nothing_20 : decode prb_X_nothing 20 = .ok (.getfield 74, 3) := by decide +kernel
theorem prd_X_nothing_23 : decode prb_X_nothing 23 = .ok (.iconst 0, 1) := by decide +kernel
theorem prd_X_nothing_24 : decode prb_X_nothing 24 = .ok (.iconst 1, 1) := by decide +kernel
theorem prd_X_nothing_25 : decode prb_X_nothing 25 = .ok (.iastore, 1) := by decide +kernel
theorem prd_X_nothing_26 : decode prb_X_nothing 26 = .ok (.aload_n 0, 1) := by decide +kernel
theorem prd_X_nothing_27 : decode prb_X_nothing 27 = .ok (.getfield 77, 3) := by decide +kernel
theorem prd_X_nothing_30 : decode prb_X_nothing 30 = .ok (.iconst 0, 1) := by decide +kernel
theorem prd_X_nothing_31 : decode prb_X_nothing 31 = .ok (.iconst 0, 1) := by decide +kernel
theorem prd_X_nothing_32 : decode prb_X_nothing 32 = .ok (.iastore, 1) := by decide +kernel
theorem prd_X_nothing_33 : decode prb_X_nothing 33 = .ok (.aload_n 0, 1) := by decide +kernel
theorem prd_X_nothing_34 : decode prb_X_nothing 34 = .ok (.getfield 80, 3) := by decide +kernel
theorem prd_X_nothing_37 : decode prb_X_nothing 37 = .ok (.iconst 0, 1) := by decide +kernel
theorem prd_X_nothing_38 : decode prb_X_nothing 38 = .ok (.iconst 0, 1) := by decide +kernel
theorem prd_X_nothing_39 : decode prb_X_nothing 39 = .ok (.iastore, 1) := by decide +kernel
theorem prd_X_nothing_40 : decode prb_X_nothing 40 = .ok (.aload_n 0, 1) := by decide +kernel
theorem prd_X_nothing_41 : decode prb_X_nothing 41 = .ok (.iconst 0, 1) := by decide +kernel
theorem prd_X_nothing_42 : decode prb_X_nothing 42 = .ok (.putfield 151, 3) := by decide +kernel
theorem prd_X_nothing_45 : decode prb_X_nothing 45 = .ok (.aload_n 0, 1) := by decide +kernel
theorem prd_X_nothing_46 : decode prb_X_nothing 46 = .ok (.iconst 0, 1) := by decide +kernel
theorem prd_X_nothing_47 : decode prb_X_nothing 47 = .ok (.putfield 154, 3) := by decide +kernel
theorem prd_X_nothing_50 : decode prb_X_nothing 50 = .ok (.aload_n 0, 1) := by decide +kernel
theorem prd_X_nothing_51 : decode prb_X_nothing 51 = .ok (.iconst 0, 1) := by decide +kernel
theorem prd_X_nothing_52 : decode prb_X_nothing 52 = .ok (.putfield 157, 3) := by decide +kernel
theorem prd_X_nothing_55 : decode prb_X_nothing 55 = .ok (.return_, 1) := by decide +kernel
theorem prd_X_add_0 : decode prb_X_add 0 = .ok (.aload_n 0, 1) := by decide +kernel
theorem prd_X_add_1 : decode prb_X_add 1 = .ok (.getfield 47, 3) := by decide +kernel
theorem prd_X_add_4 : decode prb_X_add 4 = .ok (.aload_n 0, 1) := by decide +kernel
theorem prd_X_add_5 : decode prb_X_add 5 = .ok (.getfield 160, 3) := by decide +kernel
theorem prd_X_add_8 : decode prb_X_add 8 = .ok (.iload_n 1, 1) := by decide +kernel
theorem prd_X_add_9 : decode prb_X_add 9 = .ok (.iastore, 1) := by decide +kernel
theorem prd_X_add_10 : decode prb_X_add 10 = .ok (.aload_n 0, 1) := by decide +kernel
theorem prd_X_add_11 : decode prb_X_add 11 = .ok (.getfield 50, 3) := by decide +kernel
theorem prd_X_add_14 : decode prb_X_add 14 = .ok (.aload_n 0, 1) := by decide +kernel
theorem prd_X_add_15 : decode prb_X_add 15 = .ok (.getfield 160, 3) := by decide +kernel
theorem prd_X_add_18 : decode prb_X_add 18 = .ok (.iload_n 2, 1) := by decide +kernel
theorem prd_X_add_19 : decode prb_X_add 19 = .ok (.iastore, 1) := by decide +kernel
theorem prd_X_add_20 : decode prb_X_add 20 = .ok (.aload_n 0, 1) := by decide +kernel
theorem prd_X_add_21 : decode prb_X_add 21 = .ok (.getfield 53, 3) := by decide +kernel
theorem prd_X_add_24 : decode prb_X_add 24 = .ok (.aload_n 0, 1) := by decide +kernel
theorem prd_X_add_25 : decode prb_X_add 25 = .ok (.getfield 160, 3) := by decide +kernel
theorem prd_X_add_28 : decode prb_X_add 28 = .ok (.iload_n 3, 1) := by decide +kernel
theorem prd_X_add_29 : decode prb_X_add 29 = .ok (.iastore, 1) := by decide +kernel
theorem prd_X_add_30 : decode prb_X_add 30 = .ok (.aload_n 0, 1) := by decide +kernel
theorem prd_X_add_31 : decode prb_X_add 31 = .ok (.getfield 56, 3) := by decide +kernel
theorem prd_X_add_34 : decode prb_X_add 34 = .ok (.aload_n 0, 1) := by decide +kernel
theorem prd_X_add_35 : decode prb_X_add 35 = .ok (.getfield 160, 3) := by decide +kernel
theorem prd_X_add_38 : decode prb_X_add 38 = .ok (.iload 4, 2) := by decide +kernel
theorem prd_X_add_40 : decode prb_X_add 40 = .ok (.iastore, 1) := by decide +kernel
theorem prd_X_add_41 : decode prb_X_add 41 = .ok (.aload_n 0, 1) := by decide +kernel
theorem prd_X_add_42 : decode prb_X_add 42 = .ok (.getfield 59, 3) := by decide +kernel
theorem prd_X_add_45 : decode prb_X_add 45 = .ok (.aload_n 0, 1) := by decide +kernel
theorem prd_X_add_46 : decode prb_X_add 46 = .ok (.getfield 160, 3) := by decide +kernel
theorem prd_X_add_49 : decode prb_X_add 49 = .ok (.iconst 1, 1) := by decide +kernel
theorem prd_X_add_50 : decode prb_X_add 50 = .ok (.iastore, 1) := by decide +kernel
theorem prd_X_add_51 : decode prb_X_add 51 = .ok (.iload 4, 2) := by decide +kernel
theorem prd_X_add_53 : decode prb_X_add 53 = .ok (.istore 5, 2) := by decide +kernel
theorem prd_X_add_55 : decode prb_X_add 55 = .ok (.iload 5, 2) := by decide +kernel
theorem prd_X_add_57 : decode prb_X_add 57 = .ok (.iconst (-1), 1) := by decide +kernel
theorem prd_X_add_58 : decode prb_X_add 58 = .ok (.if_icmp .eq 26, 3) := by decide +kernel
theorem prd_X_add_84 : decode prb_X_add 84 = .ok (.aload_n 0, 1) := by decide +kernel
theorem prd_X_add_85 : decode prb_X_add 85 = .ok (.dup, 1) := by decide +kernel
theorem prd_X_add_86 : decode prb_X_add 86 = .ok (.getfield 160, 3) := by decide +kernel
theorem prd_X_add_89 : decode prb_X_add 89 = .ok (.iconst 1, 1) := by decide +kernel
theorem prd_X_add_90 : decode prb_X_add 90 = .ok (.iadd, 1) := by decide +kernel
theorem prd_X_add_91 : decode prb_X_add 91 = .ok (.putfield 160, 3) := by decide +kernel
theorem prd_X_add_94 : decode prb_X_add 94 = .ok (.aload_n 0, 1) := by decide +kernel
theorem prd_X_add_95 : decode prb_X_add 95 = .ok (.getfield 160, 3) := by decide +kernel
theorem prd_X_add_98 : decode prb_X_add 98 = .ok (.iconst 1, 1) := by decide +kernel
theorem prd_X_add_99 : decode prb_X_add 99 = .ok (.isub, 1) := by decide +kernel
theorem prd_X_add_100 : decode prb_X_add 100 = .ok (.ireturn, 1) := by decide +kernel
theorem prd_X_add_61 : decode prb_X_add 61 = .ok (.aload_n 0, 1) := by decide +kernel
theorem prd_X_add_62 : decode prb_X_add 62 = .ok (.getfield 59, 3) := by decide +kernel
theorem prd_X_add_65 : decode prb_X_add 65 = .ok (.iload 5, 2) := by decide +kernel
theorem prd_X_add_67 : decode prb_X_add 67 = .ok (.dup2, 1) := by decide +kernel
theorem prd_X_add_68 : decode prb_X_add 68 = .ok (.iaload, 1) := by decide +kernel
theorem prd_X_add_69 : decode prb_X_add 69 = .ok (.iconst 1, 1) := by decide +kernel
theorem prd_X_add_70 : decode prb_X_add 70 = .ok (.iadd, 1) := by decide +kernel
theorem prd_X_add_71 : decode prb_X_add 71 = .ok (.iastore, 1) := by decide +kernel
theorem prd_X_add_72 : decode prb_X_add 72 = .ok (.aload_n 0, 1) := by decide +kernel
theorem prd_X_add_73 : decode prb_X_add 73 = .ok (.getfield 56, 3) := by decide +kernel
theorem prd_X_add_76 : decode prb_X_add 76 = .ok (.iload 5, 2) := by decide +kernel
theorem prd_X_add_78 : decode prb_X_add 78 = .ok (.iaload, 1) := by decide +kernel
theorem prd_X_add_79 : decode prb_X_add 79 = .ok (.istore 5, 2) := by decide +kernel
theorem prd_X_add_81 : decode prb_X_add 81 = .ok (.goto (-26), 3) := by decide +kernel
theorem prd_X_feed_0 : decode prb_X_feed 0 = .ok (.aload_n 0, 1) := by decide +kernel
theorem prd_X_feed_1 : decode prb_X_feed 1 = .ok (.getfield 163, 3) := by decide +kernel
theorem prd_X_feed_4 : decode prb_X_feed 4 = .ok (.bipush 20, 2) := by decide +kernel
theorem prd_X_feed_6 : decode prb_X_feed 6 = .ok (.iadd, 1) := by decide +kernel
theorem prd_X_feed_7 : decode prb_X_feed 7 = .ok (.sipush 8000, 3) := by decide +kernel
theorem prd_X_feed_10 : decode prb_X_feed 10 = .ok (.if_icmp .le 5, 3) := by decide +kernel
theorem prd_X_feed_15 : decode prb_X_feed 15 = .ok (.iconst 0, 1) := by decide +kernel
theorem prd_X_feed_16 : decode prb_X_feed 16 = .ok (.istore 6, 2) := by decide +kernel
theorem prd_X_feed_13 : decode prb_X_feed 13 = .ok (.iconst (-1), 1) := by decide +kernel
theorem prd_X_feed_14 : decode prb_X_feed 14 = .ok (.ireturn, 1) := by decide +kernel
theorem prd_X_feed_18 : decode prb_X_feed 18 = .ok (.iload 6, 2) := by decide +kernel
theorem prd_X_feed_20 : decode prb_X_feed 20 = .ok (.bipush 20, 2) := by decide +kernel
theorem prd_X_feed_22 : decode prb_X_feed 22 = .ok (.if_icmp .ge 93, 3) := by decide +kernel
theorem prd_X_feed_115 : decode prb_X_feed 115 = .ok (.aload_n 0, 1) := by decide +kernel
theorem prd_X_feed_116 : decode prb_X_feed 116 = .ok (.getfield 163, 3) := by decide +kernel
theorem prd_X_feed_119 : decode prb_X_feed 119 = .ok (.ireturn, 1) := by decide +kernel
theorem prd_X_feed_25 : decode prb_X_feed 25 = .ok (.iload 6, 2) := by decide +kernel
theorem prd_X_feed_27 : decode prb_X_feed 27 = .ok (.iconst 4, 1) := by decide +kernel
theorem prd_X_feed_28 : decode prb_X_feed 28 = .ok (.if_icmp .ge 7, 3) := by decide +kernel
theorem prd_X_feed_35 : decode prb_X_feed 35 = .ok (.iload 6, 2) := by decide +kernel
theorem prd_X_feed_37 : decode prb_X_feed 37 = .ok (.bipush 8, 2) := by decide +kernel
theorem prd_X_feed_39 : decode prb_X_feed 39 = .ok (.if_icmp .ge 7, 3) := by decide +kernel
theorem prd_X_feed_46 : decode prb_X_feed 46 = .ok (.iload 6, 2) := by decide +kernel
theorem prd_X_feed_48 : decode prb_X_feed 48 = .ok (.bipush 12, 2) := by decide +kernel
theorem prd_X_feed_50 : decode prb_X_feed 50 = .ok (.if_icmp .ge 7, 3) := by decide +kernel
theorem prd_X_feed_57 : decode prb_X_feed 57 = .ok (.iload 6, 2) := by decide +kernel
theorem prd_X_feed_59 : decode prb_X_feed 59 = .ok (.bipush 16, 2) := by decide +kernel
theorem prd_X_feed_61 : decode prb_X_feed 61 = .ok (.if_icmp .ge 8, 3) := by decide +kernel
theorem prd_X_feed_69 : decode prb_X_feed 69 = .ok (.iload 5, 2) := by decide +kernel
theorem prd_X_feed_71 : decode prb_X_feed 71 = .ok (.istore 7, 2) := by decide +kernel
theorem prd_X_feed_73 : decode prb_X_feed 73 = .ok (.aload_n 0, 1) := by decide +kernel
theorem prd_X_feed_74 : decode prb_X_feed 74 = .ok (.getfield 9, 3) := by decide +kernel
theorem prd_X_feed_77 : decode prb_X_feed 77 = .ok (.aload_n 0, 1) := by decide +kernel
theorem prd_X_feed_78 : decode prb_X_feed 78 = .ok (.getfield 163, 3) := by decide +kernel
theorem prd_X_feed_81 : decode prb_X_feed 81 = .ok (.iload 7, 2) := by decide +kernel
theorem prd_X_feed_83 : decode prb_X_feed 83 = .ok (.bipush 24, 2) := by decide +kernel
theorem prd_X_feed_85 : decode prb_X_feed 85 = .ok (.bipush 8, 2) := by decide +kernel
theorem prd_X_feed_87 : decode prb_X_feed 87 = .ok (.iload 6, 2) := by decide +kernel
theorem prd_X_feed_89 : decode prb_X_feed 89 = .ok (.iconst 4, 1) := by decide +kernel
theorem prd_X_feed_90 : decode prb_X_feed 90 = .ok (.irem, 1) := by decide +kernel
theorem prd_X_feed_91 : decode prb_X_feed 91 = .ok (.imul, 1) := by decide +kernel
theorem prd_X_feed_92 : decode prb_X_feed 92 = .ok (.isub, 1) := by decide +kernel
theorem prd_X_feed_93 : decode prb_X_feed 93 = .ok (.ishr, 1) := by decide +kernel
theorem prd_X_feed_94 : decode prb_X_feed 94 = .ok (.sipush 255, 3) := by decide +kernel
theorem prd_X_feed_97 : decode prb_X_feed 97 = .ok (.iand, 1) := by decide +kernel
theorem prd_X_feed_98 : decode prb_X_feed 98 = .ok (.iastore, 1) := by decide +kernel
theorem prd_X_feed_99 : decode prb_X_feed 99 = .ok (.aload_n 0, 1) := by decide +kernel
theorem prd_X_feed_100 : decode prb_X_feed 100 = .ok (.dup, 1) := by decide +kernel
theorem prd_X_feed_101 : decode prb_X_feed 101 = .ok (.getfield 163, 3) := by decide +kernel
theorem prd_X_feed_104 : decode prb_X_feed 104 = .ok (.iconst 1, 1) := by decide +kernel
theorem prd_X_feed_105 : decode prb_X_feed 105 = .ok (.iadd, 1) := by decide +kernel
theorem prd_X_feed_106 : decode prb_X_feed 106 = .ok (.putfield 163, 3) := by decide +kernel
theorem prd_X_feed_109 : decode prb_X_feed 109 = .ok (.iinc 6 1, 3) := by decide +kernel
theorem prd_X_feed_112 : decode prb_X_feed 112 = .ok (.goto (-94), 3) := by decide +kernel
theorem prd_X_feed_64 : decode prb_X_feed 64 = .ok (.iload 4, 2) := by decide +kernel
theorem prd_X_feed_66 : decode prb_X_feed 66 = .ok (.goto 5, 3) := by decide +kernel
theorem prd_X_feed_53 : decode prb_X_feed 53 = .ok (.iload_n 3, 1) := by decide +kernel
theorem prd_X_feed_54 : decode prb_X_feed 54 = .ok (.goto 17, 3) := by decide +kernel
theorem prd_X_feed_42 : decode prb_X_feed 42 = .ok (.iload_n 2, 1) := by decide +kernel
theorem prd_X_feed_43 : decode prb_X_feed 43 = .ok (.goto 28, 3) := by decide +kernel
theorem prd_X_feed_31 : decode prb_X_feed 31 = .ok (.iload_n 1, 1) := by decide +kernel
theorem prd_X_feed_32 : decode prb_X_feed 32 = .ok (.goto 39, 3) := by decide +kernel
theorem prd_X_isAt_0 : decode prb_X_isAt 0 = .ok (.iload_n 1, 1) := by decide +kernel
theorem prd_X_isAt_1 : decode prb_X_isAt 1 = .ok (.iconst 1, 1) := by decide +kernel
theorem prd_X_isAt_2 : decode prb_X_isAt 2 = .ok (.iadd, 1) := by decide +kernel
theorem prd_X_isAt_3 : decode prb_X_isAt 3 = .ok (.aload_n 0, 1) := by decide +kernel
theorem prd_X_isAt_4 : decode prb_X_isAt 4 = .ok (.getfield 166, 3) := by decide +kernel
theorem prd_X_isAt_7 : decode prb_X_isAt 7 = .ok (.if_icmp .ge 29, 3) := by decide +kernel
theorem prd_X_isAt_36 : decode prb_X_isAt 36 = .ok (.iconst 0, 1) := by decide +kernel
theorem prd_X_isAt_37 : decode prb_X_isAt 37 = .ok (.ireturn, 1) := by decide +kernel
theorem prd_X_isAt_10 : decode prb_X_isAt 10 = .ok (.aload_n 0, 1) := by decide +kernel
theorem prd_X_isAt_11 : decode prb_X_isAt 11 = .ok (.getfield 9, 3) := by decide +kernel
theorem prd_X_isAt_14 : decode prb_X_isAt 14 = .ok (.iload_n 1, 1) := by decide +kernel
theorem prd_X_isAt_15 : decode prb_X_isAt 15 = .ok (.iaload, 1) := by decide +kernel
theorem prd_X_isAt_16 : decode prb_X_isAt 16 = .ok (.iload_n 2, 1) := by decide +kernel
theorem prd_X_isAt_17 : decode prb_X_isAt 17 = .ok (.if_icmp .ne 19, 3) := by decide +kernel
theorem prd_X_isAt_20 : decode prb_X_isAt 20 = .ok (.aload_n 0, 1) := by decide +kernel
theorem prd_X_isAt_21 : decode prb_X_isAt 21 = .ok (.getfield 9, 3) := by decide +kernel
theorem prd_X_isAt_24 : decode prb_X_isAt 24 = .ok (.iload_n 1, 1) := by decide +kernel
theorem prd_X_isAt_25 : decode prb_X_isAt 25 = .ok (.iconst 1, 1) := by decide +kernel
theorem prd_X_isAt_26 : decode prb_X_isAt 26 = .ok (.iadd, 1) := by decide +kernel
theorem prd_X_isAt_27 : decode prb_X_isAt 27 = .ok (.iaload, 1) := by decide +kernel
theorem prd_X_isAt_28 : decode prb_X_isAt 28 = .ok (.iload_n 3, 1) := by decide +kernel
theorem prd_X_isAt_29 : decode prb_X_isAt 29 = .ok (.if_icmp .ne 7, 3) := by decide +kernel
theorem prd_X_isAt_32 : decode prb_X_isAt 32 = .ok (.iconst 1, 1) := by decide +kernel
theorem prd_X_isAt_33 : decode prb_X_isAt 33 = .ok (.goto 4, 3) := by decide +kernel
theorem prd_X_isLetter_0 : decode prb_X_isLetter 0 = .ok (.iload_n 0, 1) := by decide +kernel
theorem prd_X_isLetter_1 : decode prb_X_isLetter 1 = .ok (.bipush 97, 2) := by decide +kernel
theorem prd_X_isLetter_3 : decode prb_X_isLetter 3 = .ok (.if_icmp .lt 9, 3) := by decide +kernel
theorem prd_X_isLetter_12 : decode prb_X_isLetter 12 = .ok (.iload_n 0, 1) := by decide +kernel
theorem prd_X_isLetter_13 : decode prb_X_isLetter 13 = .ok (.bipush 65, 2) := by decide +kernel
theorem prd_X_isLetter_15 : decode prb_X_isLetter 15 = .ok (.if_icmp .lt 9, 3) := by decide +kernel
theorem prd_X_isLetter_24 : decode prb_X_isLetter 24 = .ok (.iload_n 0, 1) := by decide +kernel
theorem prd_X_isLetter_25 : decode prb_X_isLetter 25 = .ok (.bipush 95, 2) := by decide +kernel
theorem prd_X_isLetter_27 : decode prb_X_isLetter 27 = .ok (.if_icmp .ne 7, 3) := by decide +kernel
theorem prd_X_isLetter_34 : decode prb_X_isLetter 34 = .ok (.iconst 0, 1) := by decide +kernel
theorem prd_X_isLetter_35 : decode prb_X_isLetter 35 = .ok (.ireturn, 1) := by decide +kernel
theorem prd_X_isLetter_30 : decode prb_X_isLetter 30 = .ok (.iconst 1, 1) := by decide +kernel
theorem prd_X_isLetter_31 : decode prb_X_isLetter 31 = .ok (.goto 4, 3) := by decide +kernel
theorem prd_X_isLetter_18 : decode prb_X_isLetter 18 = .ok (.iload_n 0, 1) := by decide +kernel
theorem prd_X_isLetter_19 : decode prb_X_isLetter 19 = .ok (.bipush 90, 2) := by decide +kernel
theorem prd_X_isLetter_21 : decode prb_X_isLetter 21 = .ok (.if_icmp .le 9, 3) := by decide +kernel
theorem prd_X_isLetter_6 : decode prb_X_isLetter 6 = .ok (.iload_n 0, 1) := by decide +kernel
theorem prd_X_isLetter_7 : decode prb_X_isLetter 7 = .ok (.bipush 122, 2) := by decide +kernel
theorem prd_X_isLetter_9 : decode prb_X_isLetter 9 = .ok (.if_icmp .le 21, 3) := by decide +kernel
theorem prd_X_isDigit_0 : decode prb_X_isDigit 0 = .ok (.iload_n 0, 1) := by decide +kernel
theorem prd_X_isDigit_1 : decode prb_X_isDigit 1 = .ok (.bipush 48, 2) := by decide +kernel
theorem prd_X_isDigit_3 : decode prb_X_isDigit 3 = .ok (.if_icmp .lt 13, 3) := by decide +kernel
theorem prd_X_isDigit_16 : decode prb_X_isDigit 16 = .ok (.iconst 0, 1) := by decide +kernel
theorem prd_X_isDigit_17 : decode prb_X_isDigit 17 = .ok (.ireturn, 1) := by decide +kernel
theorem prd_X_isDigit_6 : decode prb_X_isDigit 6 = .ok (.iload_n 0, 1) := by decide +kernel
theorem prd_X_isDigit_7 : decode prb_X_isDigit 7 = .ok (.bipush 57, 2) := by decide +kernel
theorem prd_X_isDigit_9 : decode prb_X_isDigit 9 = .ok (.if_icmp .gt 7, 3) := by decide +kernel
theorem prd_X_isDigit_12 : decode prb_X_isDigit 12 = .ok (.iconst 1, 1) := by decide +kernel
theorem prd_X_isDigit_13 : decode prb_X_isDigit 13 = .ok (.goto 4, 3) := by decide +kernel
theorem prd_X_isWord_0 : decode prb_X_isWord 0 = .ok (.iload_n 1, 1) := by decide +kernel
theorem prd_X_isWord_1 : decode prb_X_isWord 1 = .ok (.aload_n 0, 1) := by decide +kernel
theorem prd_X_isWord_2 : decode prb_X_isWord 2 = .ok (.getfield 166, 3) := by decide +kernel
theorem prd_X_isWord_5 : decode prb_X_isWord 5 = .ok (.if_icmp .ge 31, 3) := by decide +kernel
theorem prd_X_isWord_36 : decode prb_X_isWord 36 = .ok (.iconst 0, 1) := by decide +kernel
theorem prd_X_isWord_37 : decode prb_X_isWord 37 = .ok (.ireturn, 1) := by decide +kernel
theorem prd_X_isWord_8 : decode prb_X_isWord 8 = .ok (.aload_n 0, 1) := by decide +kernel
theorem prd_X_isWord_9 : decode prb_X_isWord 9 = .ok (.getfield 9, 3) := by decide +kernel
theorem prd_X_isWord_12 : decode prb_X_isWord 12 = .ok (.iload_n 1, 1) := by decide +kernel
theorem prd_X_isWord_13 : decode prb_X_isWord 13 = .ok (.iaload, 1) := by decide +kernel
theorem prd_X_isWord_14 : decode prb_X_isWord 14 = .ok (.invokestatic 169, 3) := by decide +kernel
theorem prd_X_isWord_17 : decode prb_X_isWord 17 = .ok (.ifCond .ne 15, 3) := by decide +kernel
theorem prd_X_isWord_32 : decode prb_X_isWord 32 = .ok (.iconst 1, 1) := by decide +kernel
theorem prd_X_isWord_33 : decode prb_X_isWord 33 = .ok (.goto 4, 3) := by decide +kernel
theorem prd_X_isWord_20 : decode prb_X_isWord 20 = .ok (.aload_n 0, 1) := by decide +kernel
theorem prd_X_isWord_21 : decode prb_X_isWord 21 = .ok (.getfield 9, 3) := by decide +kernel
theorem prd_X_isWord_24 : decode prb_X_isWord 24 = .ok (.iload_n 1, 1) := by decide +kernel
theorem prd_X_isWord_25 : decode prb_X_isWord 25 = .ok (.iaload, 1) := by decide +kernel
theorem prd_X_isWord_26 : decode prb_X_isWord 26 = .ok (.invokestatic 173, 3) := by decide +kernel
theorem prd_X_isWord_29 : decode prb_X_isWord 29 = .ok (.ifCond .eq 7, 3) := by decide +kernel
theorem prd_X_behindBlanks_0 : decode prb_X_behindBlanks 0 = .ok (.iload_n 1, 1) := by decide +kernel
theorem prd_X_behindBlanks_1 : decode prb_X_behindBlanks 1 = .ok (.istore_n 2, 1) := by decide +kernel
theorem prd_X_behindBlanks_2 : decode prb_X_behindBlanks 2 = .ok (.iconst 1, 1) := by decide +kernel
theorem prd_X_behindBlanks_3 : decode prb_X_behindBlanks 3 = .ok (.istore_n 3, 1) := by decide +kernel
theorem prd_X_behindBlanks_4 : decode prb_X_behindBlanks 4 = .ok (.iload_n 3, 1) := by decide +kernel
theorem prd_X_behindBlanks_5 : decode prb_X_behindBlanks 5 = .ok (.ifCond .eq 95, 3) := by decide +kernel
theorem prd_X_behindBlanks_100 : decode prb_X_behindBlanks 100 = .ok (.iload_n 2, 1) := by decide +kernel
theorem prd_X_behindBlanks_101 : decode prb_X_behindBlanks 101 = .ok (.ireturn, 1) := by decide +kernel
theorem prd_X_behindBlanks_8 : decode prb_X_behindBlanks 8 = .ok (.iload_n 2, 1) := by decide +kernel
theorem prd_X_behindBlanks_9 : decode prb_X_behindBlanks 9 = .ok (.aload_n 0, 1) := by decide +kernel
theorem prd_X_behindBlanks_10 : decode prb_X_behindBlanks 10 = .ok (.getfield 166, 3) := by decide +kernel
theorem prd_X_behindBlanks_13 : decode prb_X_behindBlanks 13 = .ok (.if_icmp .ge 87, 3) := by decide +kernel
theorem prd_X_behindBlanks_16 : decode prb_X_behindBlanks 16 = .ok (.aload_n 0, 1) := by decide +kernel
theorem prd_X_behindBlanks_17 : decode prb_X_behindBlanks 17 = .ok (.getfield 9, 3) := by decide +kernel
theorem prd_X_behindBlanks_20 : decode prb_X_behindBlanks 20 = .ok (.iload_n 2, 1) := by decide +kernel
theorem prd_X_behindBlanks_21 : decode prb_X_behindBlanks 21 = .ok (.iaload, 1) := by decide +kernel
theorem prd_X_behindBlanks_22 : decode prb_X_behindBlanks 22 = .ok (.istore 4, 2) := by decide +kernel
theorem prd_X_behindBlanks_24 : decode prb_X_behindBlanks 24 = .ok (.iload 4, 2) := by decide +kernel
theorem prd_X_behindBlanks_26 : decode prb_X_behindBlanks 26 = .ok (.bipush 9, 2) := by decide +kernel
theorem prd_X_behindBlanks_28 : decode prb_X_behindBlanks 28 = .ok (.if_icmp .eq 24, 3) := by decide +kernel
theorem prd_X_behindBlanks_52 : decode prb_X_behindBlanks 52 = .ok (.iinc 2 1, 3) := by decide +kernel
theorem prd_X_behindBlanks_55 : decode prb_X_behindBlanks 55 = .ok (.goto 42, 3) := by decide +kernel
theorem prd_X_behindBlanks_97 : decode prb_X_behindBlanks 97 = .ok (.goto (-93), 3) := by decide +kernel
theorem prd_X_behindBlanks_31 : decode prb_X_behindBlanks 31 = .ok (.iload 4, 2) := by decide +kernel
theorem prd_X_behindBlanks_33 : decode prb_X_behindBlanks 33 = .ok (.bipush 10, 2) := by decide +kernel
theorem prd_X_behindBlanks_35 : decode prb_X_behindBlanks 35 = .ok (.if_icmp .eq 17, 3) := by decide +kernel
theorem prd_X_behindBlanks_38 : decode prb_X_behindBlanks 38 = .ok (.iload 4, 2) := by decide +kernel
theorem prd_X_behindBlanks_40 : decode prb_X_behindBlanks 40 = .ok (.bipush 13, 2) := by decide +kernel
theorem prd_X_behindBlanks_42 : decode prb_X_behindBlanks 42 = .ok (.if_icmp .eq 10, 3) := by decide +kernel
theorem prd_X_behindBlanks_45 : decode prb_X_behindBlanks 45 = .ok (.iload 4, 2) := by decide +kernel
theorem prd_X_behindBlanks_47 : decode prb_X_behindBlanks 47 = .ok (.bipush 32, 2) := by decide +kernel
theorem prd_X_behindBlanks_49 : decode prb_X_behindBlanks 49 = .ok (.if_icmp .ne 9, 3) := by decide +kernel
theorem prd_X_behindBlanks_58 : decode prb_X_behindBlanks 58 = .ok (.aload_n 0, 1) := by decide +kernel
theorem prd_X_behindBlanks_59 : decode prb_X_behindBlanks 59 = .ok (.iload_n 2, 1) := by decide +kernel
theorem prd_X_behindBlanks_60 : decode prb_X_behindBlanks 60 = .ok (.bipush 47, 2) := by decide +kernel
theorem prd_X_behindBlanks_62 : decode prb_X_behindBlanks 62 = .ok (.bipush 47, 2) := by decide +kernel
theorem prd_X_behindBlanks_64 : decode prb_X_behindBlanks 64 = .ok (.invokevirtual 176, 3) := by decide +kernel
theorem prd_X_behindBlanks_67 : decode prb_X_behindBlanks 67 = .ok (.ifCond .eq 28, 3) := by decide +kernel
theorem prd_X_behindBlanks_95 : decode prb_X_behindBlanks 95 = .ok (.iconst 0, 1) := by decide +kernel
theorem prd_X_behindBlanks_96 : decode prb_X_behindBlanks 96 = .ok (.istore_n 3, 1) := by decide +kernel
theorem prd_X_behindBlanks_70 : decode prb_X_behindBlanks 70 = .ok (.iload_n 2, 1) := by decide +kernel
theorem prd_X_behindBlanks_71 : decode prb_X_behindBlanks 71 = .ok (.aload_n 0, 1) := by decide +kernel
theorem prd_X_behindBlanks_72 : decode prb_X_behindBlanks 72 = .ok (.getfield 166, 3) := by decide +kernel
theorem prd_X_behindBlanks_75 : decode prb_X_behindBlanks 75 = .ok (.if_icmp .ge 22, 3) := by decide +kernel
theorem prd_X_behindBlanks_78 : decode prb_X_behindBlanks 78 = .ok (.aload_n 0, 1) := by decide +kernel
theorem prd_X_behindBlanks_79 : decode prb_X_behindBlanks 79 = .ok (.getfield 9, 3) := by decide +kernel
theorem prd_X_behindBlanks_82 : decode prb_X_behindBlanks 82 = .ok (.iload_n 2, 1) := by decide +kernel
theorem prd_X_behindBlanks_83 : decode prb_X_behindBlanks 83 = .ok (.iaload, 1) := by decide +kernel
theorem prd_X_behindBlanks_84 : decode prb_X_behindBlanks 84 = .ok (.bipush 10, 2) := by decide +kernel
theorem prd_X_behindBlanks_86 : decode prb_X_behindBlanks 86 = .ok (.if_icmp .eq 11, 3) := by decide +kernel
theorem prd_X_behindBlanks_89 : decode prb_X_behindBlanks 89 = .ok (.iinc 2 1, 3) := by decide +kernel
theorem prd_X_behindBlanks_92 : decode prb_X_behindBlanks 92 = .ok (.goto (-22), 3) := by decide +kernel
theorem prd_X_wordOf_0 : decode prb_X_wordOf 0 = .ok (.iconst 0, 1) := by decide +kernel
theorem prd_X_wordOf_1 : decode prb_X_wordOf 1 = .ok (.istore_n 3, 1) := by decide +kernel
theorem prd_X_wordOf_2 : decode prb_X_wordOf 2 = .ok (.iload_n 3, 1) := by decide +kernel
theorem prd_X_wordOf_3 : decode prb_X_wordOf 3 = .ok (.aload_n 0, 1) := by decide +kernel
theorem prd_X_wordOf_4 : decode prb_X_wordOf 4 = .ok (.getfield 141, 3) := by decide +kernel
theorem prd_X_wordOf_7 : decode prb_X_wordOf 7 = .ok (.arraylength, 1) := by decide +kernel
theorem prd_X_wordOf_8 : decode prb_X_wordOf 8 = .ok (.if_icmp .ge 90, 3) := by decide +kernel
theorem prd_X_wordOf_98 : decode prb_X_wordOf 98 = .ok (.iload_n 2, 1) := by decide +kernel
theorem prd_X_wordOf_99 : decode prb_X_wordOf 99 = .ok (.bipush 30, 2) := by decide +kernel
theorem prd_X_wordOf_101 : decode prb_X_wordOf 101 = .ok (.if_icmp .le 7, 3) := by decide +kernel
theorem prd_X_wordOf_108 : decode prb_X_wordOf 108 = .ok (.iconst 2, 1) := by decide +kernel
theorem prd_X_wordOf_109 : decode prb_X_wordOf 109 = .ok (.ireturn, 1) := by decide +kernel
theorem prd_X_wordOf_104 : decode prb_X_wordOf 104 = .ok (.iconst 1, 1) := by decide +kernel
theorem prd_X_wordOf_105 : decode prb_X_wordOf 105 = .ok (.goto 4, 3) := by decide +kernel
theorem prd_X_wordOf_11 : decode prb_X_wordOf 11 = .ok (.iload_n 2, 1) := by decide +kernel
theorem prd_X_wordOf_12 : decode prb_X_wordOf 12 = .ok (.aload_n 0, 1) := by decide +kernel
theorem prd_X_wordOf_13 : decode prb_X_wordOf 13 = .ok (.getfield 141, 3) := by decide +kernel
theorem prd_X_wordOf_16 : decode prb_X_wordOf 16 = .ok (.iload_n 3, 1) := by decide +kernel
theorem prd_X_wordOf_17 : decode prb_X_wordOf 17 = .ok (.aaload, 1) := by decide +kernel
theorem prd_X_wordOf_18 : decode prb_X_wordOf 18 = .ok (.invokevirtual 180, 3) := by decide +kernel
theorem prd_X_wordOf_21 : decode prb_X_wordOf 21 = .ok (.if_icmp .ne 7, 3) := by decide +kernel
theorem prd_X_wordOf_28 : decode prb_X_wordOf 28 = .ok (.iconst 0, 1) := by decide +kernel
theorem prd_X_wordOf_29 : decode prb_X_wordOf 29 = .ok (.istore 4, 2) := by decide +kernel
theorem prd_X_wordOf_31 : decode prb_X_wordOf 31 = .ok (.iconst 0, 1) := by decide +kernel
theorem prd_X_wordOf_32 : decode prb_X_wordOf 32 = .ok (.istore 5, 2) := by decide +kernel
theorem prd_X_wordOf_24 : decode prb_X_wordOf 24 = .ok (.iconst 1, 1) := by decide +kernel
theorem prd_X_wordOf_25 : decode prb_X_wordOf 25 = .ok (.goto 4, 3) := by decide +kernel
theorem prd_X_wordOf_34 : decode prb_X_wordOf 34 = .ok (.iload 5, 2) := by decide +kernel
theorem prd_X_wordOf_36 : decode prb_X_wordOf 36 = .ok (.iload_n 2, 1) := by decide +kernel
theorem prd_X_wordOf_37 : decode prb_X_wordOf 37 = .ok (.if_icmp .ge 44, 3) := by decide +kernel
theorem prd_X_wordOf_81 : decode prb_X_wordOf 81 = .ok (.iload 4, 2) := by decide +kernel
theorem prd_X_wordOf_83 : decode prb_X_wordOf 83 = .ok (.ifCond .eq 9, 3) := by decide +kernel
theorem prd_X_wordOf_92 : decode prb_X_wordOf 92 = .ok (.iinc 3 1, 3) := by decide +kernel
theorem prd_X_wordOf_95 : decode prb_X_wordOf 95 = .ok (.goto (-93), 3) := by decide +kernel
theorem prd_X_wordOf_86 : decode prb_X_wordOf 86 = .ok (.sipush 300, 3) := by decide +kernel
theorem prd_X_wordOf_89 : decode prb_X_wordOf 89 = .ok (.iload_n 3, 1) := by decide +kernel
theorem prd_X_wordOf_90 : decode prb_X_wordOf 90 = .ok (.iadd, 1) := by decide +kernel
theorem prd_X_wordOf_91 : decode prb_X_wordOf 91 = .ok (.ireturn, 1) := by decide +kernel
theorem prd_X_wordOf_40 : decode prb_X_wordOf 40 = .ok (.iload 4, 2) := by decide +kernel
theorem prd_X_wordOf_42 : decode prb_X_wordOf 42 = .ok (.ifCond .eq 39, 3) := by decide +kernel
theorem prd_X_wordOf_45 : decode prb_X_wordOf 45 = .ok (.aload_n 0, 1) := by decide +kernel
theorem prd_X_wordOf_46 : decode prb_X_wordOf 46 = .ok (.getfield 9, 3) := by decide +kernel
theorem prd_X_wordOf_49 : decode prb_X_wordOf 49 = .ok (.iload_n 1, 1) := by decide +kernel
theorem prd_X_wordOf_50 : decode prb_X_wordOf 50 = .ok (.iload 5, 2) := by decide +kernel
theorem prd_X_wordOf_52 : decode prb_X_wordOf 52 = .ok (.iadd, 1) := by decide +kernel
theorem prd_X_wordOf_53 : decode prb_X_wordOf 53 = .ok (.iaload, 1) := by decide +kernel
theorem prd_X_wordOf_54 : decode prb_X_wordOf 54 = .ok (.aload_n 0, 1) := by decide +kernel
theorem prd_X_wordOf_55 : decode prb_X_wordOf 55 = .ok (.getfield 141, 3) := by decide +kernel
theorem prd_X_wordOf_58 : decode prb_X_wordOf 58 = .ok (.iload_n 3, 1) := by decide +kernel
theorem prd_X_wordOf_59 : decode prb_X_wordOf 59 = .ok (.aaload, 1) := by decide +kernel
theorem prd_X_wordOf_60 : decode prb_X_wordOf 60 = .ok (.iload 5, 2) := by decide +kernel
theorem prd_X_wordOf_62 : decode prb_X_wordOf 62 = .ok (.invokevirtual 183, 3) := by decide +kernel
theorem prd_X_wordOf_65 : decode prb_X_wordOf 65 = .ok (.if_icmp .ne 7, 3) := by decide +kernel
theorem prd_X_wordOf_72 : decode prb_X_wordOf 72 = .ok (.iconst 0, 1) := by decide +kernel
theorem prd_X_wordOf_73 : decode prb_X_wordOf 73 = .ok (.istore 4, 2) := by decide +kernel
theorem prd_X_wordOf_75 : decode prb_X_wordOf 75 = .ok (.iinc 5 1, 3) := by decide +kernel
theorem prd_X_wordOf_78 : decode prb_X_wordOf 78 = .ok (.goto (-44), 3) := by decide +kernel
theorem prd_X_wordOf_68 : decode prb_X_wordOf 68 = .ok (.iconst 1, 1) := by decide +kernel
theorem prd_X_wordOf_69 : decode prb_X_wordOf 69 = .ok (.goto 4, 3) := by decide +kernel
theorem prd_X_isNumber_0 : decode prb_X_isNumber 0 = .ok (.lconst 0, 1) := by decide +kernel
theorem prd_X_isNumber_1 : decode prb_X_isNumber 1 = .ok (.lstore_n 3, 1) := by decide +kernel
theorem prd_X_isNumber_2 : decode prb_X_isNumber 2 = .ok (.iconst 0, 1) := by decide +kernel
theorem prd_X_isNumber_3 : decode prb_X_isNumber 3 = .ok (.istore 5, 2) := by decide +kernel
theorem prd_X_isNumber_5 : decode prb_X_isNumber 5 = .ok (.iload 5, 2) := by decide +kernel
theorem prd_X_isNumber_7 : decode prb_X_isNumber 7 = .ok (.iload_n 2, 1) := by decide +kernel
theorem prd_X_isNumber_8 : decode prb_X_isNumber 8 = .ok (.if_icmp .ge 38, 3) := by decide +kernel
theorem prd_X_isNumber_11 : decode prb_X_isNumber 11 = .ok (.lload_n 3, 1) := by decide +kernel
theorem prd_X_isNumber_12 : decode prb_X_isNumber 12 = .ok (.ldc2_w 187, 3) := by decide +kernel
theorem prd_X_isNumber_15 : decode prb_X_isNumber 15 = .ok (.lcmp, 1) := by decide +kernel
theorem prd_X_isNumber_16 : decode prb_X_isNumber 16 = .ok (.ifCond .gt 30, 3) := by decide +kernel
theorem prd_X_isNumber_19 : decode prb_X_isNumber 19 = .ok (.ldc2_w 189, 3) := by decide +kernel
theorem prd_X_isNumber_22 : decode prb_X_isNumber 22 = .ok (.lload_n 3, 1) := by decide +kernel
theorem prd_X_isNumber_23 : decode prb_X_isNumber 23 = .ok (.lmul, 1) := by decide +kernel
theorem prd_X_isNumber_24 : decode prb_X_isNumber 24 = .ok (.aload_n 0, 1) := by decide +kernel
theorem prd_X_isNumber_25 : decode prb_X_isNumber 25 = .ok (.getfield 9, 3) := by decide +kernel
theorem prd_X_isNumber_28 : decode prb_X_isNumber 28 = .ok (.iload_n 1, 1) := by decide +kernel
theorem prd_X_isNumber_29 : decode prb_X_isNumber 29 = .ok (.iload 5, 2) := by decide +kernel
theorem prd_X_isNumber_31 : decode prb_X_isNumber 31 = .ok (.iadd, 1) := by decide +kernel
theorem prd_X_isNumber_32 : decode prb_X_isNumber 32 = .ok (.iaload, 1) := by decide +kernel
theorem prd_X_isNumber_33 : decode prb_X_isNumber 33 = .ok (.i2l, 1) := by decide +kernel
theorem prd_X_isNumber_34 : decode prb_X_isNumber 34 = .ok (.ladd, 1) := by decide +kernel
theorem prd_X_isNumber_35 : decode prb_X_isNumber 35 = .ok (.ldc2_w 191, 3) := by decide +kernel
theorem prd_X_isNumber_38 : decode prb_X_isNumber 38 = .ok (.lsub, 1) := by decide +kernel
theorem prd_X_isNumber_39 : decode prb_X_isNumber 39 = .ok (.lstore_n 3, 1) := by decide +kernel
theorem prd_X_isNumber_40 : decode prb_X_isNumber 40 = .ok (.iinc 5 1, 3) := by decide +kernel
theorem prd_X_isNumber_43 : decode prb_X_isNumber 43 = .ok (.goto (-38), 3) := by decide +kernel
theorem prd_X_isNumber_46 : decode prb_X_isNumber 46 = .ok (.lload_n 3, 1) := by decide +kernel
theorem prd_X_isNumber_47 : decode prb_X_isNumber 47 = .ok (.ldc2_w 187, 3) := by decide +kernel
theorem prd_X_isNumber_50 : decode prb_X_isNumber 50 = .ok (.lcmp, 1) := by decide +kernel
theorem prd_X_isNumber_51 : decode prb_X_isNumber 51 = .ok (.ifCond .gt 33, 3) := by decide +kernel
theorem prd_X_isNumber_84 : decode prb_X_isNumber 84 = .ok (.iconst 0, 1) := by decide +kernel
theorem prd_X_isNumber_85 : decode prb_X_isNumber 85 = .ok (.ireturn, 1) := by decide +kernel
theorem prd_X_isNumber_54 : decode prb_X_isNumber 54 = .ok (.iload_n 2, 1) := by decide +kernel
theorem prd_X_isNumber_55 : decode prb_X_isNumber 55 = .ok (.iconst 1, 1) := by decide +kernel
theorem prd_X_isNumber_56 : decode prb_X_isNumber 56 = .ok (.if_icmp .eq 14, 3) := by decide +kernel
theorem prd_X_isNumber_70 : decode prb_X_isNumber 70 = .ok (.aload_n 0, 1) := by decide +kernel
theorem prd_X_isNumber_71 : decode prb_X_isNumber 71 = .ok (.iload_n 1, 1) := by decide +kernel
theorem prd_X_isNumber_72 : decode prb_X_isNumber 72 = .ok (.iload_n 2, 1) := by decide +kernel
theorem prd_X_isNumber_73 : decode prb_X_isNumber 73 = .ok (.iadd, 1) := by decide +kernel
theorem prd_X_isNumber_74 : decode prb_X_isNumber 74 = .ok (.invokevirtual 193, 3) := by decide +kernel
theorem prd_X_isNumber_77 : decode prb_X_isNumber 77 = .ok (.ifCond .ne 7, 3) := by decide +kernel
theorem prd_X_isNumber_80 : decode prb_X_isNumber 80 = .ok (.iconst 1, 1) := by decide +kernel
theorem prd_X_isNumber_81 : decode prb_X_isNumber 81 = .ok (.goto 4, 3) := by decide +kernel
theorem prd_X_isNumber_59 : decode prb_X_isNumber 59 = .ok (.aload_n 0, 1) := by decide +kernel
theorem prd_X_isNumber_60 : decode prb_X_isNumber 60 = .ok (.getfield 9, 3) := by decide +kernel
theorem prd_X_isNumber_63 : decode prb_X_isNumber 63 = .ok (.iload_n 1, 1) := by decide +kernel
theorem prd_X_isNumber_64 : decode prb_X_isNumber 64 = .ok (.iaload, 1) := by decide +kernel
theorem prd_X_isNumber_65 : decode prb_X_isNumber 65 = .ok (.bipush 48, 2) := by decide +kernel
theorem prd_X_isNumber_67 : decode prb_X_isNumber 67 = .ok (.if_icmp .eq 17, 3) := by decide +kernel
theorem prd_X_scan_0 : decode prb_X_scan 0 = .ok (.aload_n 0, 1) := by decide +kernel
theorem prd_X_scan_1 : decode prb_X_scan 1 = .ok (.iconst 0, 1) := by decide +kernel
theorem prd_X_scan_2 : decode prb_X_scan 2 = .ok (.putfield 196, 3) := by decide +kernel
theorem prd_X_scan_5 : decode prb_X_scan 5 = .ok (.aload_n 0, 1) := by decide +kernel
theorem prd_X_scan_6 : decode prb_X_scan 6 = .ok (.iconst 0, 1) := by decide +kernel
theorem prd_X_scan_7 : decode prb_X_scan 7 = .ok (.invokevirtual 199, 3) := by decide +kernel
theorem prd_X_scan_10 : decode prb_X_scan 10 = .ok (.istore_n 1, 1) := by decide +kernel
theorem prd_X_scan_11 : decode prb_X_scan 11 = .ok (.iconst 1, 1) := by decide +kernel
theorem prd_X_scan_12 : decode prb_X_scan 12 = .ok (.istore_n 2, 1) := by decide +kernel
theorem prd_X_scan_13 : decode prb_X_scan 13 = .ok (.iload_n 2, 1) := by decide +kernel
theorem prd_X_scan_14 : decode prb_X_scan 14 = .ok (.ifCond .eq 475, 3) := by decide +kernel
theorem prd_X_scan_489 : decode prb_X_scan 489 = .ok (.return_, 1) := by decide +kernel
theorem prd_X_scan_17 : decode prb_X_scan 17 = .ok (.iconst 1, 1) := by decide +kernel
theorem prd_X_scan_18 : decode prb_X_scan 18 = .ok (.istore_n 3, 1) := by decide +kernel
theorem prd_X_scan_19 : decode prb_X_scan 19 = .ok (.iconst 1, 1) := by decide +kernel
theorem prd_X_scan_20 : decode prb_X_scan 20 = .ok (.istore 4, 2) := by decide +kernel
theorem prd_X_scan_22 : decode prb_X_scan 22 = .ok (.iload_n 1, 1) := by decide +kernel
theorem prd_X_scan_23 : decode prb_X_scan 23 = .ok (.aload_n 0, 1) := by decide +kernel
theorem prd_X_scan_24 : decode prb_X_scan 24 = .ok (.getfield 166, 3) := by decide +kernel
theorem prd_X_scan_27 : decode prb_X_scan 27 = .ok (.if_icmp .ge 12, 3) := by decide +kernel
theorem prd_X_scan_39 : decode prb_X_scan 39 = .ok (.iconst 0, 1) := by decide +kernel
theorem prd_X_scan_40 : decode prb_X_scan 40 = .ok (.istore 5, 2) := by decide +kernel
theorem prd_X_scan_42 : decode prb_X_scan 42 = .ok (.iload_n 1, 1) := by decide +kernel
theorem prd_X_scan_43 : decode prb_X_scan 43 = .ok (.aload_n 0, 1) := by decide +kernel
theorem prd_X_scan_44 : decode prb_X_scan 44 = .ok (.getfield 166, 3) := by decide +kernel
theorem prd_X_scan_47 : decode prb_X_scan 47 = .ok (.if_icmp .lt 11, 3) := by decide +kernel
theorem prd_X_scan_58 : decode prb_X_scan 58 = .ok (.iload 5, 2) := by decide +kernel
theorem prd_X_scan_60 : decode prb_X_scan 60 = .ok (.invokestatic 169, 3) := by decide +kernel
theorem prd_X_scan_63 : decode prb_X_scan 63 = .ok (.ifCond .eq 30, 3) := by decide +kernel
theorem prd_X_scan_93 : decode prb_X_scan 93 = .ok (.iload 5, 2) := by decide +kernel
theorem prd_X_scan_95 : decode prb_X_scan 95 = .ok (.invokestatic 173, 3) := by decide +kernel
theorem prd_X_scan_98 : decode prb_X_scan 98 = .ok (.ifCond .eq 52, 3) := by decide +kernel
theorem prd_X_scan_150 : decode prb_X_scan 150 = .ok (.aload_n 0, 1) := by decide +kernel
theorem prd_X_scan_151 : decode prb_X_scan 151 = .ok (.iload_n 1, 1) := by decide +kernel
theorem prd_X_scan_152 : decode prb_X_scan 152 = .ok (.bipush 60, 2) := by decide +kernel
theorem prd_X_scan_154 : decode prb_X_scan 154 = .ok (.bipush 61, 2) := by decide +kernel
theorem prd_X_scan_156 : decode prb_X_scan 156 = .ok (.invokevirtual 176, 3) := by decide +kernel
theorem prd_X_scan_159 : decode prb_X_scan 159 = .ok (.ifCond .ne 63, 3) := by decide +kernel
theorem prd_X_scan_162 : decode prb_X_scan 162 = .ok (.aload_n 0, 1) := by decide +kernel
theorem prd_X_scan_163 : decode prb_X_scan 163 = .ok (.iload_n 1, 1) := by decide +kernel
theorem prd_X_scan_164 : decode prb_X_scan 164 = .ok (.bipush 62, 2) := by decide +kernel
theorem prd_X_scan_166 : decode prb_X_scan 166 = .ok (.bipush 61, 2) := by decide +kernel
theorem prd_X_scan_168 : decode prb_X_scan 168 = .ok (.invokevirtual 176, 3) := by decide +kernel
theorem prd_X_scan_171 : decode prb_X_scan 171 = .ok (.ifCond .ne 51, 3) := by decide +kernel
theorem prd_X_scan_174 : decode prb_X_scan 174 = .ok (.aload_n 0, 1) := by decide +kernel
theorem prd_X_scan_175 : decode prb_X_scan 175 = .ok (.iload_n 1, 1) := by decide +kernel
theorem prd_X_scan_176 : decode prb_X_scan 176 = .ok (.bipush 61, 2) := by decide +kernel
theorem prd_X_scan_178 : decode prb_X_scan 178 = .ok (.bipush 61, 2) := by decide +kernel
theorem prd_X_scan_180 : decode prb_X_scan 180 = .ok (.invokevirtual 176, 3) := by decide +kernel
theorem prd_X_scan_183 : decode prb_X_scan 183 = .ok (.ifCond .ne 39, 3) := by decide +kernel
theorem prd_X_scan_186 : decode prb_X_scan 186 = .ok (.aload_n 0, 1) := by decide +kernel
theorem prd_X_scan_187 : decode prb_X_scan 187 = .ok (.iload_n 1, 1) := by decide +kernel
theorem prd_X_scan_188 : decode prb_X_scan 188 = .ok (.bipush 33, 2) := by decide +kernel
theorem prd_X_scan_190 : decode prb_X_scan 190 = .ok (.bipush 61, 2) := by decide +kernel
theorem prd_X_scan_192 : decode prb_X_scan 192 = .ok (.invokevirtual 176, 3) := by decide +kernel
theorem prd_X_scan_195 : decode prb_X_scan 195 = .ok (.ifCond .ne 27, 3) := by decide +kernel
theorem prd_X_scan_198 : decode prb_X_scan 198 = .ok (.aload_n 0, 1) := by decide +kernel
theorem prd_X_scan_199 : decode prb_X_scan 199 = .ok (.iload_n 1, 1) := by decide +kernel
theorem prd_X_scan_200 : decode prb_X_scan 200 = .ok (.bipush 38, 2) := by decide +kernel
theorem prd_X_scan_202 : decode prb_X_scan 202 = .ok (.bipush 38, 2) := by decide +kernel
theorem prd_X_scan_204 : decode prb_X_scan 204 = .ok (.invokevirtual 176, 3) := by decide +kernel
theorem prd_X_scan_207 : decode prb_X_scan 207 = .ok (.ifCond .ne 15, 3) := by decide +kernel
theorem prd_X_scan_210 : decode prb_X_scan 210 = .ok (.aload_n 0, 1) := by decide +kernel
theorem prd_X_scan_211 : decode prb_X_scan 211 = .ok (.iload_n 1, 1) := by decide +kernel
theorem prd_X_scan_212 : decode prb_X_scan 212 = .ok (.bipush 124, 2) := by decide +kernel
theorem prd_X_scan_214 : decode prb_X_scan 214 = .ok (.bipush 124, 2) := by decide +kernel
theorem prd_X_scan_216 : decode prb_X_scan 216 = .ok (.invokevirtual 176, 3) := by decide +kernel
theorem prd_X_scan_219 : decode prb_X_scan 219 = .ok (.ifCond .eq 78, 3) := by decide +kernel
theorem prd_X_scan_297 : decode prb_X_scan 297 = .ok (.iload 5, 2) := by decide +kernel
theorem prd_X_scan_299 : decode prb_X_scan 299 = .ok (.bipush 40, 2) := by decide +kernel
theorem prd_X_scan_301 : decode prb_X_scan 301 = .ok (.if_icmp .eq 115, 3) := by decide +kernel
theorem prd_X_scan_304 : decode prb_X_scan 304 = .ok (.iload 5, 2) := by decide +kernel
theorem prd_X_scan_306 : decode prb_X_scan 306 = .ok (.bipush 41, 2) := by decide +kernel
theorem prd_X_scan_308 : decode prb_X_scan 308 = .ok (.if_icmp .eq 108, 3) := by decide +kernel
theorem prd_X_scan_311 : decode prb_X_scan 311 = .ok (.iload 5, 2) := by decide +kernel
theorem prd_X_scan_313 : decode prb_X_scan 313 = .ok (.bipush 123, 2) := by decide +kernel
theorem prd_X_scan_315 : decode prb_X_scan 315 = .ok (.if_icmp .eq 101, 3) := by decide +kernel
theorem prd_X_scan_318 : decode prb_X_scan 318 = .ok (.iload 5, 2) := by decide +kernel
theorem prd_X_scan_320 : decode prb_X_scan 320 = .ok (.bipush 125, 2) := by decide +kernel
theorem prd_X_scan_322 : decode prb_X_scan 322 = .ok (.if_icmp .eq 94, 3) := by decide +kernel
theorem prd_X_scan_325 : decode prb_X_scan 325 = .ok (.iload 5, 2) := by decide +kernel
theorem prd_X_scan_327 : decode prb_X_scan 327 = .ok (.bipush 91, 2) := by decide +kernel
theorem prd_X_scan_329 : decode prb_X_scan 329 = .ok (.if_icmp .eq 87, 3) := by decide +kernel
theorem prd_X_scan_332 : decode prb_X_scan 332 = .ok (.iload 5, 2) := by decide +kernel
theorem prd_X_scan_334 : decode prb_X_scan 334 = .ok (.bipush 93, 2) := by decide +kernel
theorem prd_X_scan_336 : decode prb_X_scan 336 = .ok (.if_icmp .eq 80, 3) := by decide +kernel
theorem prd_X_scan_339 : decode prb_X_scan 339 = .ok (.iload 5, 2) := by decide +kernel
theorem prd_X_scan_341 : decode prb_X_scan 341 = .ok (.bipush 44, 2) := by decide +kernel
theorem prd_X_scan_343 : decode prb_X_scan 343 = .ok (.if_icmp .eq 73, 3) := by decide +kernel
theorem prd_X_scan_346 : decode prb_X_scan 346 = .ok (.iload 5, 2) := by decide +kernel
theorem prd_X_scan_348 : decode prb_X_scan 348 = .ok (.bipush 59, 2) := by decide +kernel
theorem prd_X_scan_350 : decode prb_X_scan 350 = .ok (.if_icmp .eq 66, 3) := by decide +kernel
theorem prd_X_scan_353 : decode prb_X_scan 353 = .ok (.iload 5, 2) := by decide +kernel
theorem prd_X_scan_355 : decode prb_X_scan 355 = .ok (.bipush 61, 2) := by decide +kernel
theorem prd_X_scan_357 : decode prb_X_scan 357 = .ok (.if_icmp .eq 59, 3) := by decide +kernel
theorem prd_X_scan_360 : decode prb_X_scan 360 = .ok (.iload 5, 2) := by decide +kernel
theorem prd_X_scan_362 : decode prb_X_scan 362 = .ok (.bipush 43, 2) := by decide +kernel
theorem prd_X_scan_364 : decode prb_X_scan 364 = .ok (.if_icmp .eq 52, 3) := by decide +kernel
theorem prd_X_scan_367 : decode prb_X_scan 367 = .ok (.iload 5, 2) := by decide +kernel
theorem prd_X_scan_369 : decode prb_X_scan 369 = .ok (.bipush 45, 2) := by decide +kernel
theorem prd_X_scan_371 : decode prb_X_scan 371 = .ok (.if_icmp .eq 45, 3) := by decide +kernel
theorem prd_X_scan_374 : decode prb_X_scan 374 = .ok (.iload 5, 2) := by decide +kernel
theorem prd_X_scan_376 : decode prb_X_scan 376 = .ok (.bipush 42, 2) := by decide +kernel
theorem prd_X_scan_378 : decode prb_X_scan 378 = .ok (.if_icmp .eq 38, 3) := by decide +kernel
theorem prd_X_scan_381 : decode prb_X_scan 381 = .ok (.iload 5, 2) := by decide +kernel
theorem prd_X_scan_383 : decode prb_X_scan 383 = .ok (.bipush 47, 2) := by decide +kernel
theorem prd_X_scan_385 : decode prb_X_scan 385 = .ok (.if_icmp .eq 31, 3) := by decide +kernel
theorem prd_X_scan_388 : decode prb_X_scan 388 = .ok (.iload 5, 2) := by decide +kernel
theorem prd_X_scan_390 : decode prb_X_scan 390 = .ok (.bipush 37, 2) := by decide +kernel
theorem prd_X_scan_392 : decode prb_X_scan 392 = .ok (.if_icmp .eq 24, 3) := by decide +kernel
theorem prd_X_scan_395 : decode prb_X_scan 395 = .ok (.iload 5, 2) := by decide +kernel
theorem prd_X_scan_397 : decode prb_X_scan 397 = .ok (.bipush 60, 2) := by decide +kernel
theorem prd_X_scan_399 : decode prb_X_scan 399 = .ok (.if_icmp .eq 17, 3) := by decide +kernel
theorem prd_X_scan_402 : decode prb_X_scan 402 = .ok (.iload 5, 2) := by decide +kernel
theorem prd_X_scan_404 : decode prb_X_scan 404 = .ok (.bipush 62, 2) := by decide +kernel
theorem prd_X_scan_406 : decode prb_X_scan 406 = .ok (.if_icmp .eq 10, 3) := by decide +kernel
theorem prd_X_scan_409 : decode prb_X_scan 409 = .ok (.iload 5, 2) := by decide +kernel
theorem prd_X_scan_411 : decode prb_X_scan 411 = .ok (.bipush 33, 2) := by decide +kernel
theorem prd_X_scan_413 : decode prb_X_scan 413 = .ok (.if_icmp .ne 7, 3) := by decide +kernel
theorem prd_X_scan_50 : decode prb_X_scan 50 = .ok (.iconst 0, 1) := by decide +kernel
theorem prd_X_scan_51 : decode prb_X_scan 51 = .ok (.istore 4, 2) := by decide +kernel
theorem prd_X_scan_53 : decode prb_X_scan 53 = .ok (.iconst 0, 1) := by decide +kernel
theorem prd_X_scan_54 : decode prb_X_scan 54 = .ok (.istore_n 3, 1) := by decide +kernel
theorem prd_X_scan_55 : decode prb_X_scan 55 = .ok (.goto 365, 3) := by decide +kernel
theorem prd_X_scan_30 : decode prb_X_scan 30 = .ok (.aload_n 0, 1) := by decide +kernel
theorem prd_X_scan_31 : decode prb_X_scan 31 = .ok (.getfield 9, 3) := by decide +kernel
theorem prd_X_scan_34 : decode prb_X_scan 34 = .ok (.iload_n 1, 1) := by decide +kernel
theorem prd_X_scan_35 : decode prb_X_scan 35 = .ok (.iaload, 1) := by decide +kernel
theorem prd_X_scan_36 : decode prb_X_scan 36 = .ok (.goto 4, 3) := by decide +kernel
theorem prd_X_scan_66 : decode prb_X_scan 66 = .ok (.aload_n 0, 1) := by decide +kernel
theorem prd_X_scan_67 : decode prb_X_scan 67 = .ok (.iload_n 1, 1) := by decide +kernel
theorem prd_X_scan_68 : decode prb_X_scan 68 = .ok (.iload_n 3, 1) := by decide +kernel
theorem prd_X_scan_69 : decode prb_X_scan 69 = .ok (.iadd, 1) := by decide +kernel
theorem prd_X_scan_70 : decode prb_X_scan 70 = .ok (.invokevirtual 193, 3) := by decide +kernel
theorem prd_X_scan_73 : decode prb_X_scan 73 = .ok (.ifCond .eq 9, 3) := by decide +kernel
theorem prd_X_scan_82 : decode prb_X_scan 82 = .ok (.aload_n 0, 1) := by decide +kernel
theorem prd_X_scan_83 : decode prb_X_scan 83 = .ok (.iload_n 1, 1) := by decide +kernel
theorem prd_X_scan_84 : decode prb_X_scan 84 = .ok (.iload_n 3, 1) := by decide +kernel
theorem prd_X_scan_85 : decode prb_X_scan 85 = .ok (.invokevirtual 203, 3) := by decide +kernel
theorem prd_X_scan_88 : decode prb_X_scan 88 = .ok (.istore 4, 2) := by decide +kernel
theorem prd_X_scan_90 : decode prb_X_scan 90 = .ok (.goto 330, 3) := by decide +kernel
theorem prd_X_scan_76 : decode prb_X_scan 76 = .ok (.iinc 3 1, 3) := by decide +kernel
theorem prd_X_scan_79 : decode prb_X_scan 79 = .ok (.goto (-13), 3) := by decide +kernel
theorem prd_X_scan_101 : decode prb_X_scan 101 = .ok (.iload_n 1, 1) := by decide +kernel
theorem prd_X_scan_102 : decode prb_X_scan 102 = .ok (.iload_n 3, 1) := by decide +kernel
theorem prd_X_scan_103 : decode prb_X_scan 103 = .ok (.iadd, 1) := by decide +kernel
theorem prd_X_scan_104 : decode prb_X_scan 104 = .ok (.aload_n 0, 1) := by decide +kernel
theorem prd_X_scan_105 : decode prb_X_scan 105 = .ok (.getfield 166, 3) := by decide +kernel
theorem prd_X_scan_108 : decode prb_X_scan 108 = .ok (.if_icmp .ge 23, 3) := by decide +kernel
theorem prd_X_scan_111 : decode prb_X_scan 111 = .ok (.aload_n 0, 1) := by decide +kernel
theorem prd_X_scan_112 : decode prb_X_scan 112 = .ok (.getfield 9, 3) := by decide +kernel
theorem prd_X_scan_115 : decode prb_X_scan 115 = .ok (.iload_n 1, 1) := by decide +kernel
theorem prd_X_scan_116 : decode prb_X_scan 116 = .ok (.iload_n 3, 1) := by decide +kernel
theorem prd_X_scan_117 : decode prb_X_scan 117 = .ok (.iadd, 1) := by decide +kernel
theorem prd_X_scan_118 : decode prb_X_scan 118 = .ok (.iaload, 1) := by decide +kernel
theorem prd_X_scan_119 : decode prb_X_scan 119 = .ok (.invokestatic 173, 3) := by decide +kernel
theorem prd_X_scan_122 : decode prb_X_scan 122 = .ok (.ifCond .eq 9, 3) := by decide +kernel
theorem prd_X_scan_125 : decode prb_X_scan 125 = .ok (.iinc 3 1, 3) := by decide +kernel
theorem prd_X_scan_128 : decode prb_X_scan 128 = .ok (.goto (-27), 3) := by decide +kernel
theorem prd_X_scan_131 : decode prb_X_scan 131 = .ok (.aload_n 0, 1) := by decide +kernel
theorem prd_X_scan_132 : decode prb_X_scan 132 = .ok (.iload_n 1, 1) := by decide +kernel
theorem prd_X_scan_133 : decode prb_X_scan 133 = .ok (.iload_n 3, 1) := by decide +kernel
theorem prd_X_scan_134 : decode prb_X_scan 134 = .ok (.invokevirtual 207, 3) := by decide +kernel
theorem prd_X_scan_137 : decode prb_X_scan 137 = .ok (.ifCond .eq 7, 3) := by decide +kernel
theorem prd_X_scan_144 : decode prb_X_scan 144 = .ok (.iconst 1, 1) := by decide +kernel
theorem prd_X_scan_145 : decode prb_X_scan 145 = .ok (.istore 4, 2) := by decide +kernel
theorem prd_X_scan_147 : decode prb_X_scan 147 = .ok (.goto 273, 3) := by decide +kernel
theorem prd_X_scan_140 : decode prb_X_scan 140 = .ok (.iconst 3, 1) := by decide +kernel
theorem prd_X_scan_141 : decode prb_X_scan 141 = .ok (.goto 4, 3) := by decide +kernel
theorem prd_X_scan_420 : decode prb_X_scan 420 = .ok (.aload_n 0, 1) := by decide +kernel
theorem prd_X_scan_421 : decode prb_X_scan 421 = .ok (.getfield 13, 3) := by decide +kernel
theorem prd_X_scan_424 : decode prb_X_scan 424 = .ok (.aload_n 0, 1) := by decide +kernel
theorem prd_X_scan_425 : decode prb_X_scan 425 = .ok (.getfield 196, 3) := by decide +kernel
theorem prd_X_scan_428 : decode prb_X_scan 428 = .ok (.iload 4, 2) := by decide +kernel
theorem prd_X_scan_430 : decode prb_X_scan 430 = .ok (.iastore, 1) := by decide +kernel
theorem prd_X_scan_431 : decode prb_X_scan 431 = .ok (.aload_n 0, 1) := by decide +kernel
theorem prd_X_scan_432 : decode prb_X_scan 432 = .ok (.getfield 16, 3) := by decide +kernel
theorem prd_X_scan_435 : decode prb_X_scan 435 = .ok (.aload_n 0, 1) := by decide +kernel
theorem prd_X_scan_436 : decode prb_X_scan 436 = .ok (.getfield 196, 3) := by decide +kernel
theorem prd_X_scan_439 : decode prb_X_scan 439 = .ok (.iload_n 1, 1) := by decide +kernel
theorem prd_X_scan_440 : decode prb_X_scan 440 = .ok (.iastore, 1) := by decide +kernel
theorem prd_X_scan_441 : decode prb_X_scan 441 = .ok (.aload_n 0, 1) := by decide +kernel
theorem prd_X_scan_442 : decode prb_X_scan 442 = .ok (.getfield 19, 3) := by decide +kernel
theorem prd_X_scan_445 : decode prb_X_scan 445 = .ok (.aload_n 0, 1) := by decide +kernel
theorem prd_X_scan_446 : decode prb_X_scan 446 = .ok (.getfield 196, 3) := by decide +kernel
theorem prd_X_scan_449 : decode prb_X_scan 449 = .ok (.iload_n 3, 1) := by decide +kernel
theorem prd_X_scan_450 : decode prb_X_scan 450 = .ok (.iastore, 1) := by decide +kernel
theorem prd_X_scan_451 : decode prb_X_scan 451 = .ok (.aload_n 0, 1) := by decide +kernel
theorem prd_X_scan_452 : decode prb_X_scan 452 = .ok (.dup, 1) := by decide +kernel
theorem prd_X_scan_453 : decode prb_X_scan 453 = .ok (.getfield 196, 3) := by decide +kernel
theorem prd_X_scan_456 : decode prb_X_scan 456 = .ok (.iconst 1, 1) := by decide +kernel
theorem prd_X_scan_457 : decode prb_X_scan 457 = .ok (.iadd, 1) := by decide +kernel
theorem prd_X_scan_458 : decode prb_X_scan 458 = .ok (.putfield 196, 3) := by decide +kernel
theorem prd_X_scan_461 : decode prb_X_scan 461 = .ok (.iload 4, 2) := by decide +kernel
theorem prd_X_scan_463 : decode prb_X_scan 463 = .ok (.iconst 1, 1) := by decide +kernel
theorem prd_X_scan_464 : decode prb_X_scan 464 = .ok (.if_icmp .eq 12, 3) := by decide +kernel
theorem prd_X_scan_476 : decode prb_X_scan 476 = .ok (.iconst 0, 1) := by decide +kernel
theorem prd_X_scan_477 : decode prb_X_scan 477 = .ok (.istore_n 2, 1) := by decide +kernel
theorem prd_X_scan_478 : decode prb_X_scan 478 = .ok (.aload_n 0, 1) := by decide +kernel
theorem prd_X_scan_479 : decode prb_X_scan 479 = .ok (.iload_n 1, 1) := by decide +kernel
theorem prd_X_scan_480 : decode prb_X_scan 480 = .ok (.iload_n 3, 1) := by decide +kernel
theorem prd_X_scan_481 : decode prb_X_scan 481 = .ok (.iadd, 1) := by decide +kernel
theorem prd_X_scan_482 : decode prb_X_scan 482 = .ok (.invokevirtual 199, 3) := by decide +kernel
theorem prd_X_scan_485 : decode prb_X_scan 485 = .ok (.istore_n 1, 1) := by decide +kernel
theorem prd_X_scan_486 : decode prb_X_scan 486 = .ok (.goto (-473), 3) := by decide +kernel
theorem prd_X_scan_467 : decode prb_X_scan 467 = .ok (.iload 4, 2) := by decide +kernel
theorem prd_X_scan_469 : decode prb_X_scan 469 = .ok (.ifCond .eq 7, 3) := by decide +kernel
theorem prd_X_scan_472 : decode prb_X_scan 472 = .ok (.iconst 1, 1) := by decide +kernel
theorem prd_X_scan_473 : decode prb_X_scan 473 = .ok (.goto 4, 3) := by decide +kernel
theorem prd_X_scan_416 : decode prb_X_scan 416 = .ok (.iload 5, 2) := by decide +kernel
theorem prd_X_scan_418 : decode prb_X_scan 418 = .ok (.istore 4, 2) := by decide +kernel
theorem prd_X_scan_222 : decode prb_X_scan 222 = .ok (.iconst 2, 1) := by decide +kernel
theorem prd_X_scan_223 : decode prb_X_scan 223 = .ok (.istore_n 3, 1) := by decide +kernel
theorem prd_X_scan_224 : decode prb_X_scan 224 = .ok (.iload 5, 2) := by decide +kernel
theorem prd_X_scan_226 : decode prb_X_scan 226 = .ok (.bipush 60, 2) := by decide +kernel
theorem prd_X_scan_228 : decode prb_X_scan 228 = .ok (.if_icmp .ne 9, 3) := by decide +kernel
theorem prd_X_scan_237 : decode prb_X_scan 237 = .ok (.iload 5, 2) := by decide +kernel
theorem prd_X_scan_239 : decode prb_X_scan 239 = .ok (.bipush 62, 2) := by decide +kernel
theorem prd_X_scan_241 : decode prb_X_scan 241 = .ok (.if_icmp .ne 9, 3) := by decide +kernel
theorem prd_X_scan_250 : decode prb_X_scan 250 = .ok (.iload 5, 2) := by decide +kernel
theorem prd_X_scan_252 : decode prb_X_scan 252 = .ok (.bipush 61, 2) := by decide +kernel
theorem prd_X_scan_254 : decode prb_X_scan 254 = .ok (.if_icmp .ne 9, 3) := by decide +kernel
theorem prd_X_scan_263 : decode prb_X_scan 263 = .ok (.iload 5, 2) := by decide +kernel
theorem prd_X_scan_265 : decode prb_X_scan 265 = .ok (.bipush 33, 2) := by decide +kernel
theorem prd_X_scan_267 : decode prb_X_scan 267 = .ok (.if_icmp .ne 9, 3) := by decide +kernel
theorem prd_X_scan_276 : decode prb_X_scan 276 = .ok (.iload 5, 2) := by decide +kernel
theorem prd_X_scan_278 : decode prb_X_scan 278 = .ok (.bipush 38, 2) := by decide +kernel
theorem prd_X_scan_280 : decode prb_X_scan 280 = .ok (.if_icmp .ne 9, 3) := by decide +kernel
theorem prd_X_scan_289 : decode prb_X_scan 289 = .ok (.sipush 261, 3) := by decide +kernel
theorem prd_X_scan_292 : decode prb_X_scan 292 = .ok (.istore 4, 2) := by decide +kernel
theorem prd_X_scan_294 : decode prb_X_scan 294 = .ok (.goto 126, 3) := by decide +kernel
theorem prd_X_scan_283 : decode prb_X_scan 283 = .ok (.sipush 260, 3) := by decide +kernel
theorem prd_X_scan_286 : decode prb_X_scan 286 = .ok (.goto 6, 3) := by decide +kernel
theorem prd_X_scan_270 : decode prb_X_scan 270 = .ok (.sipush 259, 3) := by decide +kernel
theorem prd_X_scan_273 : decode prb_X_scan 273 = .ok (.goto 19, 3) := by decide +kernel
theorem prd_X_scan_257 : decode prb_X_scan 257 = .ok (.sipush 258, 3) := by decide +kernel
theorem prd_X_scan_260 : decode prb_X_scan 260 = .ok (.goto 32, 3) := by decide +kernel
theorem prd_X_scan_244 : decode prb_X_scan 244 = .ok (.sipush 257, 3) := by decide +kernel
theorem prd_X_scan_247 : decode prb_X_scan 247 = .ok (.goto 45, 3) := by decide +kernel
theorem prd_X_scan_231 : decode prb_X_scan 231 = .ok (.sipush 256, 3) := by decide +kernel
theorem prd_X_scan_234 : decode prb_X_scan 234 = .ok (.goto 58, 3) := by decide +kernel
theorem prd_X_look_0 : decode prb_X_look 0 = .ok (.aload_n 0, 1) := by decide +kernel
theorem prd_X_look_1 : decode prb_X_look 1 = .ok (.getfield 211, 3) := by decide +kernel
theorem prd_X_look_4 : decode prb_X_look 4 = .ok (.ifCond .eq 7, 3) := by decide +kernel
theorem prd_X_look_11 : decode prb_X_look 11 = .ok (.aload_n 0, 1) := by decide +kernel
theorem prd_X_look_12 : decode prb_X_look 12 = .ok (.getfield 13, 3) := by decide +kernel
theorem prd_X_look_15 : decode prb_X_look 15 = .ok (.aload_n 0, 1) := by decide +kernel
theorem prd_X_look_16 : decode prb_X_look 16 = .ok (.getfield 215, 3) := by decide +kernel
theorem prd_X_look_19 : decode prb_X_look 19 = .ok (.iaload, 1) := by decide +kernel
theorem prd_X_look_20 : decode prb_X_look 20 = .ok (.ireturn, 1) := by decide +kernel
theorem prd_X_look_7 : decode prb_X_look 7 = .ok (.iconst 1, 1) := by decide +kernel
theorem prd_X_look_8 : decode prb_X_look 8 = .ok (.goto 12, 3) := by decide +kernel
theorem prd_X_need_0 : decode prb_X_need 0 = .ok (.iload_n 1, 1) := by decide +kernel
theorem prd_X_need_1 : decode prb_X_need 1 = .ok (.ifCond .ne 28, 3) := by decide +kernel
theorem prd_X_need_29 : decode prb_X_need 29 = .ok (.return_, 1) := by decide +kernel
theorem prd_X_need_4 : decode prb_X_need 4 = .ok (.aload_n 0, 1) := by decide +kernel
theorem prd_X_need_5 : decode prb_X_need 5 = .ok (.getfield 211, 3) := by decide +kernel
theorem prd_X_need_8 : decode prb_X_need 8 = .ok (.ifCond .ne 21, 3) := by decide +kernel
theorem prd_X_need_11 : decode prb_X_need 11 = .ok (.aload_n 0, 1) := by decide +kernel
theorem prd_X_need_12 : decode prb_X_need 12 = .ok (.iconst 1, 1) := by decide +kernel
theorem prd_X_need_13 : decode prb_X_need 13 = .ok (.putfield 211, 3) := by decide +kernel
theorem prd_X_need_16 : decode prb_X_need 16 = .ok (.aload_n 0, 1) := by decide +kernel
theorem prd_X_need_17 : decode prb_X_need 17 = .ok (.aload_n 0, 1) := by decide +kernel
theorem prd_X_need_18 : decode prb_X_need 18 = .ok (.getfield 16, 3) := by decide +kernel
theorem prd_X_need_21 : decode prb_X_need 21 = .ok (.aload_n 0, 1) := by decide +kernel
theorem prd_X_need_22 : decode prb_X_need 22 = .ok (.getfield 215, 3) := by decide +kernel
theorem prd_X_need_25 : decode prb_X_need 25 = .ok (.iaload, 1) := by decide +kernel
theorem prd_X_need_26 : decode prb_X_need 26 = .ok (.putfield 22, 3) := by decide +kernel
theorem prd_X_take_0 : decode prb_X_take 0 = .ok (.aload_n 0, 1) := by decide +kernel
theorem prd_X_take_1 : decode prb_X_take 1 = .ok (.aload_n 0, 1) := by decide +kernel
theorem prd_X_take_2 : decode prb_X_take 2 = .ok (.invokevirtual 218, 3) := by decide +kernel
theorem prd_X_take_5 : decode prb_X_take 5 = .ok (.iload_n 1, 1) := by decide +kernel
theorem prd_X_take_6 : decode prb_X_take 6 = .ok (.if_icmp .ne 7, 3) := by decide +kernel
theorem prd_X_take_13 : decode prb_X_take 13 = .ok (.iconst 0, 1) := by decide +kernel
theorem prd_X_take_14 : decode prb_X_take 14 = .ok (.invokevirtual 221, 3) := by decide +kernel
theorem prd_X_take_17 : decode prb_X_take 17 = .ok (.aload_n 0, 1) := by decide +kernel
theorem prd_X_take_18 : decode prb_X_take 18 = .ok (.aload_n 0, 1) := by decide +kernel
theorem prd_X_take_19 : decode prb_X_take 19 = .ok (.getfield 211, 3) := by decide +kernel
theorem prd_X_take_22 : decode prb_X_take 22 = .ok (.ifCond .eq 10, 3) := by decide +kernel
theorem prd_X_take_32 : decode prb_X_take 32 = .ok (.aload_n 0, 1) := by decide +kernel
theorem prd_X_take_33 : decode prb_X_take 33 = .ok (.getfield 215, 3) := by decide +kernel
theorem prd_X_take_36 : decode prb_X_take 36 = .ok (.iconst 1, 1) := by decide +kernel
theorem prd_X_take_37 : decode prb_X_take 37 = .ok (.iadd, 1) := by decide +kernel
theorem prd_X_take_38 : decode prb_X_take 38 = .ok (.putfield 215, 3) := by decide +kernel
theorem prd_X_take_41 : decode prb_X_take 41 = .ok (.return_, 1) := by decide +kernel
theorem prd_X_take_25 : decode prb_X_take 25 = .ok (.aload_n 0, 1) := by decide +kernel
theorem prd_X_take_26 : decode prb_X_take 26 = .ok (.getfield 215, 3) := by decide +kernel
theorem prd_X_take_29 : decode prb_X_take 29 = .ok (.goto 9, 3) := by decide +kernel
theorem prd_X_take_9 : decode prb_X_take 9 = .ok (.iconst 1, 1) := by decide +kernel
theorem prd_X_take_10 : decode prb_X_take 10 = .ok (.goto 4, 3) := by decide +kernel
theorem prd_X_draft_0 : decode prb_X_draft 0 = .ok (.aload_n 0, 1) := by decide +kernel
theorem prd_X_draft_1 : decode prb_X_draft 1 = .ok (.getfield 26, 3) := by decide +kernel
theorem prd_X_draft_4 : decode prb_X_draft 4 = .ok (.aload_n 0, 1) := by decide +kernel
theorem prd_X_draft_5 : decode prb_X_draft 5 = .ok (.getfield 225, 3) := by decide +kernel
theorem prd_X_draft_8 : decode prb_X_draft 8 = .ok (.iload_n 1, 1) := by decide +kernel
theorem prd_X_draft_9 : decode prb_X_draft 9 = .ok (.iastore, 1) := by decide +kernel
theorem prd_X_draft_10 : decode prb_X_draft 10 = .ok (.aload_n 0, 1) := by decide +kernel
theorem prd_X_draft_11 : decode prb_X_draft 11 = .ok (.getfield 29, 3) := by decide +kernel
theorem prd_X_draft_14 : decode prb_X_draft 14 = .ok (.aload_n 0, 1) := by decide +kernel
theorem prd_X_draft_15 : decode prb_X_draft 15 = .ok (.getfield 225, 3) := by decide +kernel
theorem prd_X_draft_18 : decode prb_X_draft 18 = .ok (.iload_n 2, 1) := by decide +kernel
theorem prd_X_draft_19 : decode prb_X_draft 19 = .ok (.iastore, 1) := by decide +kernel
theorem prd_X_draft_20 : decode prb_X_draft 20 = .ok (.aload_n 0, 1) := by decide +kernel
theorem prd_X_draft_21 : decode prb_X_draft 21 = .ok (.getfield 32, 3) := by decide +kernel
theorem prd_X_draft_24 : decode prb_X_draft 24 = .ok (.aload_n 0, 1) := by decide +kernel
theorem prd_X_draft_25 : decode prb_X_draft 25 = .ok (.getfield 225, 3) := by decide +kernel
theorem prd_X_draft_28 : decode prb_X_draft 28 = .ok (.iload_n 3, 1) := by decide +kernel
theorem prd_X_draft_29 : decode prb_X_draft 29 = .ok (.iastore, 1) := by decide +kernel
theorem prd_X_draft_30 : decode prb_X_draft 30 = .ok (.aload_n 0, 1) := by decide +kernel
theorem prd_X_draft_31 : decode prb_X_draft 31 = .ok (.getfield 35, 3) := by decide +kernel
theorem prd_X_draft_34 : decode prb_X_draft 34 = .ok (.aload_n 0, 1) := by decide +kernel
theorem prd_X_draft_35 : decode prb_X_draft 35 = .ok (.getfield 225, 3) := by decide +kernel
theorem prd_X_draft_38 : decode prb_X_draft 38 = .ok (.iconst (-1), 1) := by decide +kernel
theorem prd_X_draft_39 : decode prb_X_draft 39 = .ok (.iastore, 1) := by decide +kernel
theorem prd_X_draft_40 : decode prb_X_draft 40 = .ok (.aload_n 0, 1) := by decide +kernel
theorem prd_X_draft_41 : decode prb_X_draft 41 = .ok (.getfield 38, 3) := by decide +kernel
theorem prd_X_draft_44 : decode prb_X_draft 44 = .ok (.aload_n 0, 1) := by decide +kernel
theorem prd_X_draft_45 : decode prb_X_draft 45 = .ok (.getfield 225, 3) := by decide +kernel
theorem prd_X_draft_48 : decode prb_X_draft 48 = .ok (.iconst (-1), 1) := by decide +kernel
theorem prd_X_draft_49 : decode prb_X_draft 49 = .ok (.iastore, 1) := by decide +kernel
theorem prd_X_draft_50 : decode prb_X_draft 50 = .ok (.aload_n 0, 1) := by decide +kernel
theorem prd_X_draft_51 : decode prb_X_draft 51 = .ok (.getfield 41, 3) := by decide +kernel
theorem prd_X_draft_54 : decode prb_X_draft 54 = .ok (.aload_n 0, 1) := by decide +kernel
theorem prd_X_draft_55 : decode prb_X_draft 55 = .ok (.getfield 225, 3) := by decide +kernel
theorem prd_X_draft_58 : decode prb_X_draft 58 = .ok (.iconst (-1), 1) := by decide +kernel
theorem prd_X_draft_59 : decode prb_X_draft 59 = .ok (.iastore, 1) := by decide +kernel
theorem prd_X_draft_60 : decode prb_X_draft 60 = .ok (.aload_n 0, 1) := by decide +kernel
theorem prd_X_draft_61 : decode prb_X_draft 61 = .ok (.dup, 1) := by decide +kernel
theorem prd_X_draft_62 : decode prb_X_draft 62 = .ok (.getfield 225, 3) := by decide +kernel
theorem prd_X_draft_65 : decode prb_X_draft 65 = .ok (.iconst 1, 1) := by decide +kernel
theorem prd_X_draft_66 : decode prb_X_draft 66 = .ok (.iadd, 1) := by decide +kernel
theorem prd_X_draft_67 : decode prb_X_draft 67 = .ok (.putfield 225, 3) := by decide +kernel
theorem prd_X_draft_70 : decode prb_X_draft 70 = .ok (.aload_n 0, 1) := by decide +kernel
theorem prd_X_draft_71 : decode prb_X_draft 71 = .ok (.getfield 225, 3) := by decide +kernel
theorem prd_X_draft_74 : decode prb_X_draft 74 = .ok (.iconst 1, 1) := by decide +kernel
theorem prd_X_draft_75 : decode prb_X_draft 75 = .ok (.isub, 1) := by decide +kernel
theorem prd_X_draft_76 : decode prb_X_draft 76 = .ok (.ireturn, 1) := by decide +kernel
theorem prd_X_join_0 : decode prb_X_join 0 = .ok (.iload_n 2, 1) := by decide +kernel
theorem prd_X_join_1 : decode prb_X_join 1 = .ok (.iconst (-1), 1) := by decide +kernel
theorem prd_X_join_2 : decode prb_X_join 2 = .ok (.if_icmp .ne 4, 3) := by decide +kernel
theorem prd_X_join_6 : decode prb_X_join 6 = .ok (.aload_n 0, 1) := by decide +kernel
theorem prd_X_join_7 : decode prb_X_join 7 = .ok (.getfield 35, 3) := by decide +kernel
theorem prd_X_join_10 : decode prb_X_join 10 = .ok (.iload_n 1, 1) := by decide +kernel
theorem prd_X_join_11 : decode prb_X_join 11 = .ok (.iaload, 1) := by decide +kernel
theorem prd_X_join_12 : decode prb_X_join 12 = .ok (.iconst (-1), 1) := by decide +kernel
theorem prd_X_join_13 : decode prb_X_join 13 = .ok (.if_icmp .ne 13, 3) := by decide +kernel
theorem prd_X_join_26 : decode prb_X_join 26 = .ok (.aload_n 0, 1) := by decide +kernel
theorem prd_X_join_27 : decode prb_X_join 27 = .ok (.getfield 41, 3) := by decide +kernel
theorem prd_X_join_30 : decode prb_X_join 30 = .ok (.aload_n 0, 1) := by decide +kernel
theorem prd_X_join_31 : decode prb_X_join 31 = .ok (.getfield 38, 3) := by decide +kernel
theorem prd_X_join_34 : decode prb_X_join 34 = .ok (.iload_n 1, 1) := by decide +kernel
theorem prd_X_join_35 : decode prb_X_join 35 = .ok (.iaload, 1) := by decide +kernel
theorem prd_X_join_36 : decode prb_X_join 36 = .ok (.iload_n 2, 1) := by decide +kernel
theorem prd_X_join_37 : decode prb_X_join 37 = .ok (.iastore, 1) := by decide +kernel
theorem prd_X_join_38 : decode prb_X_join 38 = .ok (.aload_n 0, 1) := by decide +kernel
theorem prd_X_join_39 : decode prb_X_join 39 = .ok (.getfield 38, 3) := by decide +kernel
theorem prd_X_join_42 : decode prb_X_join 42 = .ok (.iload_n 1, 1) := by decide +kernel
theorem prd_X_join_43 : decode prb_X_join 43 = .ok (.iload_n 2, 1) := by decide +kernel
theorem prd_X_join_44 : decode prb_X_join 44 = .ok (.iastore, 1) := by decide +kernel
theorem prd_X_join_45 : decode prb_X_join 45 = .ok (.return_, 1) := by decide +kernel
theorem prd_X_join_16 : decode prb_X_join 16 = .ok (.aload_n 0, 1) := by decide +kernel
theorem prd_X_join_17 : decode prb_X_join 17 = .ok (.getfield 35, 3) := by decide +kernel
theorem prd_X_join_20 : decode prb_X_join 20 = .ok (.iload_n 1, 1) := by decide +kernel
theorem prd_X_join_21 : decode prb_X_join 21 = .ok (.iload_n 2, 1) := by decide +kernel
theorem prd_X_join_22 : decode prb_X_join 22 = .ok (.iastore, 1) := by decide +kernel
theorem prd_X_join_23 : decode prb_X_join 23 = .ok (.goto 15, 3) := by decide +kernel
theorem prd_X_join_5 : decode prb_X_join 5 = .ok (.return_, 1) := by decide +kernel
theorem prd_X_name_0 : decode prb_X_name 0 = .ok (.aload_n 0, 1) := by decide +kernel
theorem prd_X_name_1 : decode prb_X_name 1 = .ok (.bipush 13, 2) := by decide +kernel
theorem prd_X_name_3 : decode prb_X_name 3 = .ok (.aload_n 0, 1) := by decide +kernel
theorem prd_X_name_4 : decode prb_X_name 4 = .ok (.getfield 16, 3) := by decide +kernel
theorem prd_X_name_7 : decode prb_X_name 7 = .ok (.aload_n 0, 1) := by decide +kernel
theorem prd_X_name_8 : decode prb_X_name 8 = .ok (.getfield 215, 3) := by decide +kernel
theorem prd_X_name_11 : decode prb_X_name 11 = .ok (.iaload, 1) := by decide +kernel
theorem prd_X_name_12 : decode prb_X_name 12 = .ok (.aload_n 0, 1) := by decide +kernel
theorem prd_X_name_13 : decode prb_X_name 13 = .ok (.getfield 215, 3) := by decide +kernel
theorem prd_X_name_16 : decode prb_X_name 16 = .ok (.invokevirtual 228, 3) := by decide +kernel
theorem prd_X_name_19 : decode prb_X_name 19 = .ok (.istore_n 1, 1) := by decide +kernel
theorem prd_X_name_20 : decode prb_X_name 20 = .ok (.aload_n 0, 1) := by decide +kernel
theorem prd_X_name_21 : decode prb_X_name 21 = .ok (.iconst 2, 1) := by decide +kernel
theorem prd_X_name_22 : decode prb_X_name 22 = .ok (.invokevirtual 232, 3) := by decide +kernel
theorem prd_X_name_25 : decode prb_X_name 25 = .ok (.iload_n 1, 1) := by decide +kernel
theorem prd_X_name_26 : decode prb_X_name 26 = .ok (.ireturn, 1) := by decide +kernel
theorem prd_X_number_0 : decode prb_X_number 0 = .ok (.aload_n 0, 1) := by decide +kernel
theorem prd_X_number_1 : decode prb_X_number 1 = .ok (.getfield 16, 3) := by decide +kernel
theorem prd_X_number_4 : decode prb_X_number 4 = .ok (.aload_n 0, 1) := by decide +kernel
theorem prd_X_number_5 : decode prb_X_number 5 = .ok (.getfield 215, 3) := by decide +kernel
theorem prd_X_number_8 : decode prb_X_number 8 = .ok (.iaload, 1) := by decide +kernel
theorem prd_X_number_9 : decode prb_X_number 9 = .ok (.istore_n 2, 1) := by decide +kernel
theorem prd_X_number_10 : decode prb_X_number 10 = .ok (.iconst 1, 1) := by decide +kernel
theorem prd_X_number_11 : decode prb_X_number 11 = .ok (.istore_n 3, 1) := by decide +kernel
theorem prd_X_number_12 : decode prb_X_number 12 = .ok (.iload_n 1, 1) := by decide +kernel
theorem prd_X_number_13 : decode prb_X_number 13 = .ok (.ifCond .eq 20, 3) := by decide +kernel
theorem prd_X_number_16 : decode prb_X_number 16 = .ok (.aload_n 0, 1) := by decide +kernel
theorem prd_X_number_17 : decode prb_X_number 17 = .ok (.invokevirtual 218, 3) := by decide +kernel
theorem prd_X_number_20 : decode prb_X_number 20 = .ok (.bipush 45, 2) := by decide +kernel
theorem prd_X_number_22 : decode prb_X_number 22 = .ok (.if_icmp .ne 11, 3) := by decide +kernel
theorem prd_X_number_25 : decode prb_X_number 25 = .ok (.aload_n 0, 1) := by decide +kernel
theorem prd_X_number_26 : decode prb_X_number 26 = .ok (.bipush 45, 2) := by decide +kernel
theorem prd_X_number_28 : decode prb_X_number 28 = .ok (.invokevirtual 232, 3) := by decide +kernel
theorem prd_X_number_31 : decode prb_X_number 31 = .ok (.iconst (-1), 1) := by decide +kernel
theorem prd_X_number_32 : decode prb_X_number 32 = .ok (.istore_n 3, 1) := by decide +kernel
theorem prd_X_number_33 : decode prb_X_number 33 = .ok (.iconst 0, 1) := by decide +kernel
theorem prd_X_number_34 : decode prb_X_number 34 = .ok (.istore 4, 2) := by decide +kernel
theorem prd_X_number_36 : decode prb_X_number 36 = .ok (.aload_n 0, 1) := by decide +kernel
theorem prd_X_number_37 : decode prb_X_number 37 = .ok (.invokevirtual 218, 3) := by decide +kernel
theorem prd_X_number_40 : decode prb_X_number 40 = .ok (.iconst 3, 1) := by decide +kernel
theorem prd_X_number_41 : decode prb_X_number 41 = .ok (.if_icmp .ne 54, 3) := by decide +kernel
theorem prd_X_number_95 : decode prb_X_number 95 = .ok (.aload_n 0, 1) := by decide +kernel
theorem prd_X_number_96 : decode prb_X_number 96 = .ok (.iconst 3, 1) := by decide +kernel
theorem prd_X_number_97 : decode prb_X_number 97 = .ok (.invokevirtual 232, 3) := by decide +kernel
theorem prd_X_number_100 : decode prb_X_number 100 = .ok (.aload_n 0, 1) := by decide +kernel
theorem prd_X_number_101 : decode prb_X_number 101 = .ok (.bipush 12, 2) := by decide +kernel
theorem prd_X_number_103 : decode prb_X_number 103 = .ok (.iload_n 2, 1) := by decide +kernel
theorem prd_X_number_104 : decode prb_X_number 104 = .ok (.iload_n 3, 1) := by decide +kernel
theorem prd_X_number_105 : decode prb_X_number 105 = .ok (.iload 4, 2) := by decide +kernel
theorem prd_X_number_107 : decode prb_X_number 107 = .ok (.imul, 1) := by decide +kernel
theorem prd_X_number_108 : decode prb_X_number 108 = .ok (.invokevirtual 228, 3) := by decide +kernel
theorem prd_X_number_111 : decode prb_X_number 111 = .ok (.ireturn, 1) := by decide +kernel
theorem prd_X_number_44 : decode prb_X_number 44 = .ok (.iconst 0, 1) := by decide +kernel
theorem prd_X_number_45 : decode prb_X_number 45 = .ok (.istore 5, 2) := by decide +kernel
theorem prd_X_number_47 : decode prb_X_number 47 = .ok (.iload 5, 2) := by decide +kernel
theorem prd_X_number_49 : decode prb_X_number 49 = .ok (.aload_n 0, 1) := by decide +kernel
theorem prd_X_number_50 : decode prb_X_number 50 = .ok (.getfield 19, 3) := by decide +kernel
theorem prd_X_number_53 : decode prb_X_number 53 = .ok (.aload_n 0, 1) := by decide +kernel
theorem prd_X_number_54 : decode prb_X_number 54 = .ok (.getfield 215, 3) := by decide +kernel
theorem prd_X_number_57 : decode prb_X_number 57 = .ok (.iaload, 1) := by decide +kernel
theorem prd_X_number_58 : decode prb_X_number 58 = .ok (.if_icmp .ge 37, 3) := by decide +kernel
theorem prd_X_number_61 : decode prb_X_number 61 = .ok (.bipush 10, 2) := by decide +kernel
theorem prd_X_number_63 : decode prb_X_number 63 = .ok (.iload 4, 2) := by decide +kernel
theorem prd_X_number_65 : decode prb_X_number 65 = .ok (.imul, 1) := by decide +kernel
theorem prd_X_number_66 : decode prb_X_number 66 = .ok (.aload_n 0, 1) := by decide +kernel
theorem prd_X_number_67 : decode prb_X_number 67 = .ok (.getfield 9, 3) := by decide +kernel
theorem prd_X_number_70 : decode prb_X_number 70 = .ok (.aload_n 0, 1) := by decide +kernel
theorem prd_X_number_71 : decode prb_X_number 71 = .ok (.getfield 16, 3) := by decide +kernel
theorem prd_X_number_74 : decode prb_X_number 74 = .ok (.aload_n 0, 1) := by decide +kernel
theorem prd_X_number_75 : decode prb_X_number 75 = .ok (.getfield 215, 3) := by decide +kernel
theorem prd_X_number_78 : decode prb_X_number 78 = .ok (.iaload, 1) := by decide +kernel
theorem prd_X_number_79 : decode prb_X_number 79 = .ok (.iload 5, 2) := by decide +kernel
theorem prd_X_number_81 : decode prb_X_number 81 = .ok (.iadd, 1) := by decide +kernel
theorem prd_X_number_82 : decode prb_X_number 82 = .ok (.iaload, 1) := by decide +kernel
theorem prd_X_number_83 : decode prb_X_number 83 = .ok (.iadd, 1) := by decide +kernel
theorem prd_X_number_84 : decode prb_X_number 84 = .ok (.bipush 48, 2) := by decide +kernel
theorem prd_X_number_86 : decode prb_X_number 86 = .ok (.isub, 1) := by decide +kernel
theorem prd_X_number_87 : decode prb_X_number 87 = .ok (.istore 4, 2) := by decide +kernel
theorem prd_X_number_89 : decode prb_X_number 89 = .ok (.iinc 5 1, 3) := by decide +kernel
theorem prd_X_number_92 : decode prb_X_number 92 = .ok (.goto (-45), 3) := by decide +kernel
theorem prd_X_deep_0 : decode prb_X_deep 0 = .ok (.aload_n 0, 1) := by decide +kernel
theorem prd_X_deep_1 : decode prb_X_deep 1 = .ok (.iload_n 1, 1) := by decide +kernel
theorem prd_X_deep_2 : decode prb_X_deep 2 = .ok (.bipush 60, 2) := by decide +kernel
theorem prd_X_deep_4 : decode prb_X_deep 4 = .ok (.if_icmp .gt 7, 3) := by decide +kernel
theorem prd_X_deep_11 : decode prb_X_deep 11 = .ok (.iconst 0, 1) := by decide +kernel
theorem prd_X_deep_12 : decode prb_X_deep 12 = .ok (.invokevirtual 221, 3) := by decide +kernel
theorem prd_X_deep_15 : decode prb_X_deep 15 = .ok (.return_, 1) := by decide +kernel
theorem prd_X_deep_7 : decode prb_X_deep 7 = .ok (.iconst 1, 1) := by decide +kernel
theorem prd_X_deep_8 : decode prb_X_deep 8 = .ok (.goto 4, 3) := by decide +kernel
theorem prd_X_term_0 : decode prb_X_term 0 = .ok (.aload_n 0, 1) := by decide +kernel
theorem prd_X_term_1 : decode prb_X_term 1 = .ok (.iload_n 1, 1) := by decide +kernel
theorem prd_X_term_2 : decode prb_X_term 2 = .ok (.invokevirtual 246, 3) := by decide +kernel
theorem prd_X_term_5 : decode prb_X_term 5 = .ok (.istore_n 2, 1) := by decide +kernel
theorem prd_X_term_6 : decode prb_X_term 6 = .ok (.aload_n 0, 1) := by decide +kernel
theorem prd_X_term_7 : decode prb_X_term 7 = .ok (.invokevirtual 218, 3) := by decide +kernel
theorem prd_X_term_10 : decode prb_X_term 10 = .ok (.bipush 42, 2) := by decide +kernel
theorem prd_X_term_12 : decode prb_X_term 12 = .ok (.if_icmp .eq 23, 3) := by decide +kernel
theorem prd_X_term_35 : decode prb_X_term 35 = .ok (.aload_n 0, 1) := by decide +kernel
theorem prd_X_term_36 : decode prb_X_term 36 = .ok (.bipush 20, 2) := by decide +kernel
theorem prd_X_term_38 : decode prb_X_term 38 = .ok (.aload_n 0, 1) := by decide +kernel
theorem prd_X_term_39 : decode prb_X_term 39 = .ok (.getfield 29, 3) := by decide +kernel
theorem prd_X_term_42 : decode prb_X_term 42 = .ok (.iload_n 2, 1) := by decide +kernel
theorem prd_X_term_43 : decode prb_X_term 43 = .ok (.iaload, 1) := by decide +kernel
theorem prd_X_term_44 : decode prb_X_term 44 = .ok (.iconst 0, 1) := by decide +kernel
theorem prd_X_term_45 : decode prb_X_term 45 = .ok (.invokevirtual 228, 3) := by decide +kernel
theorem prd_X_term_48 : decode prb_X_term 48 = .ok (.istore_n 3, 1) := by decide +kernel
theorem prd_X_term_49 : decode prb_X_term 49 = .ok (.aload_n 0, 1) := by decide +kernel
theorem prd_X_term_50 : decode prb_X_term 50 = .ok (.iload_n 3, 1) := by decide +kernel
theorem prd_X_term_51 : decode prb_X_term 51 = .ok (.iload_n 2, 1) := by decide +kernel
theorem prd_X_term_52 : decode prb_X_term 52 = .ok (.invokevirtual 242, 3) := by decide +kernel
theorem prd_X_term_15 : decode prb_X_term 15 = .ok (.aload_n 0, 1) := by decide +kernel
theorem prd_X_term_16 : decode prb_X_term 16 = .ok (.invokevirtual 218, 3) := by decide +kernel
theorem prd_X_term_19 : decode prb_X_term 19 = .ok (.bipush 47, 2) := by decide +kernel
theorem prd_X_term_21 : decode prb_X_term 21 = .ok (.if_icmp .eq 14, 3) := by decide +kernel
theorem prd_X_term_24 : decode prb_X_term 24 = .ok (.aload_n 0, 1) := by decide +kernel
theorem prd_X_term_25 : decode prb_X_term 25 = .ok (.invokevirtual 218, 3) := by decide +kernel
theorem prd_X_term_28 : decode prb_X_term 28 = .ok (.bipush 37, 2) := by decide +kernel
theorem prd_X_term_30 : decode prb_X_term 30 = .ok (.if_icmp .eq 5, 3) := by decide +kernel
theorem prd_X_term_33 : decode prb_X_term 33 = .ok (.iload_n 2, 1) := by decide +kernel
theorem prd_X_term_34 : decode prb_X_term 34 = .ok (.ireturn, 1) := by decide +kernel
theorem prd_X_term_55 : decode prb_X_term 55 = .ok (.aload_n 0, 1) := by decide +kernel
theorem prd_X_term_56 : decode prb_X_term 56 = .ok (.invokevirtual 218, 3) := by decide +kernel
theorem prd_X_term_59 : decode prb_X_term 59 = .ok (.bipush 42, 2) := by decide +kernel
theorem prd_X_term_61 : decode prb_X_term 61 = .ok (.if_icmp .eq 21, 3) := by decide +kernel
theorem prd_X_term_64 : decode prb_X_term 64 = .ok (.aload_n 0, 1) := by decide +kernel
theorem prd_X_term_65 : decode prb_X_term 65 = .ok (.invokevirtual 218, 3) := by decide +kernel
theorem prd_X_term_68 : decode prb_X_term 68 = .ok (.bipush 47, 2) := by decide +kernel
theorem prd_X_term_70 : decode prb_X_term 70 = .ok (.if_icmp .eq 12, 3) := by decide +kernel
theorem prd_X_term_73 : decode prb_X_term 73 = .ok (.aload_n 0, 1) := by decide +kernel
theorem prd_X_term_74 : decode prb_X_term 74 = .ok (.invokevirtual 218, 3) := by decide +kernel
theorem prd_X_term_77 : decode prb_X_term 77 = .ok (.bipush 37, 2) := by decide +kernel
theorem prd_X_term_79 : decode prb_X_term 79 = .ok (.if_icmp .ne 89, 3) := by decide +kernel
theorem prd_X_term_168 : decode prb_X_term 168 = .ok (.iload_n 3, 1) := by decide +kernel
theorem prd_X_term_169 : decode prb_X_term 169 = .ok (.ireturn, 1) := by decide +kernel
theorem prd_X_term_82 : decode prb_X_term 82 = .ok (.aload_n 0, 1) := by decide +kernel
theorem prd_X_term_83 : decode prb_X_term 83 = .ok (.aload_n 0, 1) := by decide +kernel
theorem prd_X_term_84 : decode prb_X_term 84 = .ok (.invokevirtual 218, 3) := by decide +kernel
theorem prd_X_term_87 : decode prb_X_term 87 = .ok (.bipush 42, 2) := by decide +kernel
theorem prd_X_term_89 : decode prb_X_term 89 = .ok (.if_icmp .ne 8, 3) := by decide +kernel
theorem prd_X_term_97 : decode prb_X_term 97 = .ok (.aload_n 0, 1) := by decide +kernel
theorem prd_X_term_98 : decode prb_X_term 98 = .ok (.invokevirtual 218, 3) := by decide +kernel
theorem prd_X_term_101 : decode prb_X_term 101 = .ok (.bipush 47, 2) := by decide +kernel
theorem prd_X_term_103 : decode prb_X_term 103 = .ok (.if_icmp .ne 8, 3) := by decide +kernel
theorem prd_X_term_111 : decode prb_X_term 111 = .ok (.bipush 23, 2) := by decide +kernel
theorem prd_X_term_113 : decode prb_X_term 113 = .ok (.aload_n 0, 1) := by decide +kernel
theorem prd_X_term_114 : decode prb_X_term 114 = .ok (.getfield 16, 3) := by decide +kernel
theorem prd_X_term_117 : decode prb_X_term 117 = .ok (.aload_n 0, 1) := by decide +kernel
theorem prd_X_term_118 : decode prb_X_term 118 = .ok (.getfield 215, 3) := by decide +kernel
theorem prd_X_term_121 : decode prb_X_term 121 = .ok (.iaload, 1) := by decide +kernel
theorem prd_X_term_122 : decode prb_X_term 122 = .ok (.iconst 0, 1) := by decide +kernel
theorem prd_X_term_123 : decode prb_X_term 123 = .ok (.invokevirtual 228, 3) := by decide +kernel
theorem prd_X_term_126 : decode prb_X_term 126 = .ok (.istore 4, 2) := by decide +kernel
theorem prd_X_term_128 : decode prb_X_term 128 = .ok (.aload_n 0, 1) := by decide +kernel
theorem prd_X_term_129 : decode prb_X_term 129 = .ok (.aload_n 0, 1) := by decide +kernel
theorem prd_X_term_130 : decode prb_X_term 130 = .ok (.invokevirtual 218, 3) := by decide +kernel
theorem prd_X_term_133 : decode prb_X_term 133 = .ok (.invokevirtual 232, 3) := by decide +kernel
theorem prd_X_term_136 : decode prb_X_term 136 = .ok (.aload_n 0, 1) := by decide +kernel
theorem prd_X_term_137 : decode prb_X_term 137 = .ok (.iload 4, 2) := by decide +kernel
theorem prd_X_term_139 : decode prb_X_term 139 = .ok (.aload_n 0, 1) := by decide +kernel
theorem prd_X_term_140 : decode prb_X_term 140 = .ok (.getfield 211, 3) := by decide +kernel
theorem prd_X_term_143 : decode prb_X_term 143 = .ok (.ifCond .eq 7, 3) := by decide +kernel
theorem prd_X_term_150 : decode prb_X_term 150 = .ok (.aload_n 0, 1) := by decide +kernel
theorem prd_X_term_151 : decode prb_X_term 151 = .ok (.iload_n 1, 1) := by decide +kernel
theorem prd_X_term_152 : decode prb_X_term 152 = .ok (.invokevirtual 246, 3) := by decide +kernel
theorem prd_X_term_155 : decode prb_X_term 155 = .ok (.invokevirtual 242, 3) := by decide +kernel
theorem prd_X_term_158 : decode prb_X_term 158 = .ok (.aload_n 0, 1) := by decide +kernel
theorem prd_X_term_159 : decode prb_X_term 159 = .ok (.iload_n 3, 1) := by decide +kernel
theorem prd_X_term_160 : decode prb_X_term 160 = .ok (.iload 4, 2) := by decide +kernel
theorem prd_X_term_162 : decode prb_X_term 162 = .ok (.invokevirtual 242, 3) := by decide +kernel
theorem prd_X_term_165 : decode prb_X_term 165 = .ok (.goto (-110), 3) := by decide +kernel
theorem prd_X_term_146 : decode prb_X_term 146 = .ok (.iconst (-1), 1) := by decide +kernel
theorem prd_X_term_147 : decode prb_X_term 147 = .ok (.goto 8, 3) := by decide +kernel
theorem prd_X_term_106 : decode prb_X_term 106 = .ok (.bipush 22, 2) := by decide +kernel
theorem prd_X_term_108 : decode prb_X_term 108 = .ok (.goto 5, 3) := by decide +kernel
theorem prd_X_term_92 : decode prb_X_term 92 = .ok (.bipush 21, 2) := by decide +kernel
theorem prd_X_term_94 : decode prb_X_term 94 = .ok (.goto 19, 3) := by decide +kernel
theorem prd_X_sum_0 : decode prb_X_sum 0 = .ok (.aload_n 0, 1) := by decide +kernel
theorem prd_X_sum_1 : decode prb_X_sum 1 = .ok (.iload_n 1, 1) := by decide +kernel
theorem prd_X_sum_2 : decode prb_X_sum 2 = .ok (.invokevirtual 236, 3) := by decide +kernel
theorem prd_X_sum_5 : decode prb_X_sum 5 = .ok (.aload_n 0, 1) := by decide +kernel
theorem prd_X_sum_6 : decode prb_X_sum 6 = .ok (.getfield 211, 3) := by decide +kernel
theorem prd_X_sum_9 : decode prb_X_sum 9 = .ok (.ifCond .eq 7, 3) := by decide +kernel
theorem prd_X_sum_16 : decode prb_X_sum 16 = .ok (.aload_n 0, 1) := by decide +kernel
theorem prd_X_sum_17 : decode prb_X_sum 17 = .ok (.iload_n 1, 1) := by decide +kernel
theorem prd_X_sum_18 : decode prb_X_sum 18 = .ok (.invokevirtual 239, 3) := by decide +kernel
theorem prd_X_sum_21 : decode prb_X_sum 21 = .ok (.istore_n 2, 1) := by decide +kernel
theorem prd_X_sum_22 : decode prb_X_sum 22 = .ok (.aload_n 0, 1) := by decide +kernel
theorem prd_X_sum_23 : decode prb_X_sum 23 = .ok (.invokevirtual 218, 3) := by decide +kernel
theorem prd_X_sum_26 : decode prb_X_sum 26 = .ok (.bipush 43, 2) := by decide +kernel
theorem prd_X_sum_28 : decode prb_X_sum 28 = .ok (.if_icmp .eq 14, 3) := by decide +kernel
theorem prd_X_sum_42 : decode prb_X_sum 42 = .ok (.aload_n 0, 1) := by decide +kernel
theorem prd_X_sum_43 : decode prb_X_sum 43 = .ok (.bipush 17, 2) := by decide +kernel
theorem prd_X_sum_45 : decode prb_X_sum 45 = .ok (.aload_n 0, 1) := by decide +kernel
theorem prd_X_sum_46 : decode prb_X_sum 46 = .ok (.getfield 29, 3) := by decide +kernel
theorem prd_X_sum_49 : decode prb_X_sum 49 = .ok (.iload_n 2, 1) := by decide +kernel
theorem prd_X_sum_50 : decode prb_X_sum 50 = .ok (.iaload, 1) := by decide +kernel
theorem prd_X_sum_51 : decode prb_X_sum 51 = .ok (.iconst 0, 1) := by decide +kernel
theorem prd_X_sum_52 : decode prb_X_sum 52 = .ok (.invokevirtual 228, 3) := by decide +kernel
theorem prd_X_sum_55 : decode prb_X_sum 55 = .ok (.istore_n 3, 1) := by decide +kernel
theorem prd_X_sum_56 : decode prb_X_sum 56 = .ok (.aload_n 0, 1) := by decide +kernel
theorem prd_X_sum_57 : decode prb_X_sum 57 = .ok (.iload_n 3, 1) := by decide +kernel
theorem prd_X_sum_58 : decode prb_X_sum 58 = .ok (.iload_n 2, 1) := by decide +kernel
theorem prd_X_sum_59 : decode prb_X_sum 59 = .ok (.invokevirtual 242, 3) := by decide +kernel
theorem prd_X_sum_31 : decode prb_X_sum 31 = .ok (.aload_n 0, 1) := by decide +kernel
theorem prd_X_sum_32 : decode prb_X_sum 32 = .ok (.invokevirtual 218, 3) := by decide +kernel
theorem prd_X_sum_35 : decode prb_X_sum 35 = .ok (.bipush 45, 2) := by decide +kernel
theorem prd_X_sum_37 : decode prb_X_sum 37 = .ok (.if_icmp .eq 5, 3) := by decide +kernel
theorem prd_X_sum_40 : decode prb_X_sum 40 = .ok (.iload_n 2, 1) := by decide +kernel
theorem prd_X_sum_41 : decode prb_X_sum 41 = .ok (.ireturn, 1) := by decide +kernel
theorem prd_X_sum_12 : decode prb_X_sum 12 = .ok (.iconst (-1), 1) := by decide +kernel
theorem prd_X_sum_13 : decode prb_X_sum 13 = .ok (.goto 8, 3) := by decide +kernel
theorem prd_X_sum_62 : decode prb_X_sum 62 = .ok (.aload_n 0, 1) := by decide +kernel
theorem prd_X_sum_63 : decode prb_X_sum 63 = .ok (.invokevirtual 218, 3) := by decide +kernel
theorem prd_X_sum_66 : decode prb_X_sum 66 = .ok (.bipush 43, 2) := by decide +kernel
theorem prd_X_sum_68 : decode prb_X_sum 68 = .ok (.if_icmp .eq 12, 3) := by decide +kernel
theorem prd_X_sum_71 : decode prb_X_sum 71 = .ok (.aload_n 0, 1) := by decide +kernel
theorem prd_X_sum_72 : decode prb_X_sum 72 = .ok (.invokevirtual 218, 3) := by decide +kernel
theorem prd_X_sum_75 : decode prb_X_sum 75 = .ok (.bipush 45, 2) := by decide +kernel
theorem prd_X_sum_77 : decode prb_X_sum 77 = .ok (.if_icmp .ne 75, 3) := by decide +kernel
theorem prd_X_sum_152 : decode prb_X_sum 152 = .ok (.iload_n 3, 1) := by decide +kernel
theorem prd_X_sum_153 : decode prb_X_sum 153 = .ok (.ireturn, 1) := by decide +kernel
theorem prd_X_sum_80 : decode prb_X_sum 80 = .ok (.aload_n 0, 1) := by decide +kernel
theorem prd_X_sum_81 : decode prb_X_sum 81 = .ok (.aload_n 0, 1) := by decide +kernel
theorem prd_X_sum_82 : decode prb_X_sum 82 = .ok (.invokevirtual 218, 3) := by decide +kernel
theorem prd_X_sum_85 : decode prb_X_sum 85 = .ok (.bipush 43, 2) := by decide +kernel
theorem prd_X_sum_87 : decode prb_X_sum 87 = .ok (.if_icmp .ne 8, 3) := by decide +kernel
theorem prd_X_sum_95 : decode prb_X_sum 95 = .ok (.bipush 19, 2) := by decide +kernel
theorem prd_X_sum_97 : decode prb_X_sum 97 = .ok (.aload_n 0, 1) := by decide +kernel
theorem prd_X_sum_98 : decode prb_X_sum 98 = .ok (.getfield 16, 3) := by decide +kernel
theorem prd_X_sum_101 : decode prb_X_sum 101 = .ok (.aload_n 0, 1) := by decide +kernel
theorem prd_X_sum_102 : decode prb_X_sum 102 = .ok (.getfield 215, 3) := by decide +kernel
theorem prd_X_sum_105 : decode prb_X_sum 105 = .ok (.iaload, 1) := by decide +kernel
theorem prd_X_sum_106 : decode prb_X_sum 106 = .ok (.iconst 0, 1) := by decide +kernel
theorem prd_X_sum_107 : decode prb_X_sum 107 = .ok (.invokevirtual 228, 3) := by decide +kernel
theorem prd_X_sum_110 : decode prb_X_sum 110 = .ok (.istore 4, 2) := by decide +kernel
theorem prd_X_sum_112 : decode prb_X_sum 112 = .ok (.aload_n 0, 1) := by decide +kernel
theorem prd_X_sum_113 : decode prb_X_sum 113 = .ok (.aload_n 0, 1) := by decide +kernel
theorem prd_X_sum_114 : decode prb_X_sum 114 = .ok (.invokevirtual 218, 3) := by decide +kernel
theorem prd_X_sum_117 : decode prb_X_sum 117 = .ok (.invokevirtual 232, 3) := by decide +kernel
theorem prd_X_sum_120 : decode prb_X_sum 120 = .ok (.aload_n 0, 1) := by decide +kernel
theorem prd_X_sum_121 : decode prb_X_sum 121 = .ok (.iload 4, 2) := by decide +kernel
theorem prd_X_sum_123 : decode prb_X_sum 123 = .ok (.aload_n 0, 1) := by decide +kernel
theorem prd_X_sum_124 : decode prb_X_sum 124 = .ok (.getfield 211, 3) := by decide +kernel
theorem prd_X_sum_127 : decode prb_X_sum 127 = .ok (.ifCond .eq 7, 3) := by decide +kernel
theorem prd_X_sum_134 : decode prb_X_sum 134 = .ok (.aload_n 0, 1) := by decide +kernel
theorem prd_X_sum_135 : decode prb_X_sum 135 = .ok (.iload_n 1, 1) := by decide +kernel
theorem prd_X_sum_136 : decode prb_X_sum 136 = .ok (.invokevirtual 239, 3) := by decide +kernel
theorem prd_X_sum_139 : decode prb_X_sum 139 = .ok (.invokevirtual 242, 3) := by decide +kernel
theorem prd_X_sum_142 : decode prb_X_sum 142 = .ok (.aload_n 0, 1) := by decide +kernel
theorem prd_X_sum_143 : decode prb_X_sum 143 = .ok (.iload_n 3, 1) := by decide +kernel
theorem prd_X_sum_144 : decode prb_X_sum 144 = .ok (.iload 4, 2) := by decide +kernel
theorem prd_X_sum_146 : decode prb_X_sum 146 = .ok (.invokevirtual 242, 3) := by decide +kernel
theorem prd_X_sum_149 : decode prb_X_sum 149 = .ok (.goto (-87), 3) := by decide +kernel
theorem prd_X_sum_130 : decode prb_X_sum 130 = .ok (.iconst (-1), 1) := by decide +kernel
theorem prd_X_sum_131 : decode prb_X_sum 131 = .ok (.goto 8, 3) := by decide +kernel
theorem prd_X_sum_90 : decode prb_X_sum 90 = .ok (.bipush 18, 2) := by decide +kernel
theorem prd_X_sum_92 : decode prb_X_sum 92 = .ok (.goto 5, 3) := by decide +kernel
theorem prd_X_factor_0 : decode prb_X_factor 0 = .ok (.aload_n 0, 1) := by decide +kernel
theorem prd_X_factor_1 : decode prb_X_factor 1 = .ok (.invokevirtual 218, 3) := by decide +kernel
theorem prd_X_factor_4 : decode prb_X_factor 4 = .ok (.istore_n 2, 1) := by decide +kernel
theorem prd_X_factor_5 : decode prb_X_factor 5 = .ok (.iload_n 2, 1) := by decide +kernel
theorem prd_X_factor_6 : decode prb_X_factor 6 = .ok (.iconst 3, 1) := by decide +kernel
theorem prd_X_factor_7 : decode prb_X_factor 7 = .ok (.if_icmp .ne 9, 3) := by decide +kernel
theorem prd_X_factor_16 : decode prb_X_factor 16 = .ok (.iload_n 2, 1) := by decide +kernel
theorem prd_X_factor_17 : decode prb_X_factor 17 = .ok (.iconst 2, 1) := by decide +kernel
theorem prd_X_factor_18 : decode prb_X_factor 18 = .ok (.if_icmp .ne 88, 3) := by decide +kernel
theorem prd_X_factor_106 : decode prb_X_factor 106 = .ok (.iload_n 2, 1) := by decide +kernel
theorem prd_X_factor_107 : decode prb_X_factor 107 = .ok (.bipush 45, 2) := by decide +kernel
theorem prd_X_factor_109 : decode prb_X_factor 109 = .ok (.if_icmp .ne 58, 3) := by decide +kernel
theorem prd_X_factor_167 : decode prb_X_factor 167 = .ok (.iload_n 2, 1) := by decide +kernel
theorem prd_X_factor_168 : decode prb_X_factor 168 = .ok (.sipush 307, 3) := by decide +kernel
theorem prd_X_factor_171 : decode prb_X_factor 171 = .ok (.if_icmp .ne 76, 3) := by decide +kernel
theorem prd_X_factor_247 : decode prb_X_factor 247 = .ok (.aload_n 0, 1) := by decide +kernel
theorem prd_X_factor_248 : decode prb_X_factor 248 = .ok (.bipush 40, 2) := by decide +kernel
theorem prd_X_factor_250 : decode prb_X_factor 250 = .ok (.invokevirtual 232, 3) := by decide +kernel
theorem prd_X_factor_253 : decode prb_X_factor 253 = .ok (.aload_n 0, 1) := by decide +kernel
theorem prd_X_factor_254 : decode prb_X_factor 254 = .ok (.getfield 211, 3) := by decide +kernel
theorem prd_X_factor_257 : decode prb_X_factor 257 = .ok (.ifCond .eq 7, 3) := by decide +kernel
theorem prd_X_factor_264 : decode prb_X_factor 264 = .ok (.aload_n 0, 1) := by decide +kernel
theorem prd_X_factor_265 : decode prb_X_factor 265 = .ok (.iload_n 1, 1) := by decide +kernel
theorem prd_X_factor_266 : decode prb_X_factor 266 = .ok (.iconst 1, 1) := by decide +kernel
theorem prd_X_factor_267 : decode prb_X_factor 267 = .ok (.iadd, 1) := by decide +kernel
theorem prd_X_factor_268 : decode prb_X_factor 268 = .ok (.invokevirtual 256, 3) := by decide +kernel
theorem prd_X_factor_271 : decode prb_X_factor 271 = .ok (.istore_n 3, 1) := by decide +kernel
theorem prd_X_factor_272 : decode prb_X_factor 272 = .ok (.aload_n 0, 1) := by decide +kernel
theorem prd_X_factor_273 : decode prb_X_factor 273 = .ok (.bipush 41, 2) := by decide +kernel
theorem prd_X_factor_275 : decode prb_X_factor 275 = .ok (.invokevirtual 232, 3) := by decide +kernel
theorem prd_X_factor_278 : decode prb_X_factor 278 = .ok (.iload_n 3, 1) := by decide +kernel
theorem prd_X_factor_279 : decode prb_X_factor 279 = .ok (.ireturn, 1) := by decide +kernel
theorem prd_X_factor_260 : decode prb_X_factor 260 = .ok (.iconst (-1), 1) := by decide +kernel
theorem prd_X_factor_261 : decode prb_X_factor 261 = .ok (.goto 10, 3) := by decide +kernel
theorem prd_X_factor_174 : decode prb_X_factor 174 = .ok (.aload_n 0, 1) := by decide +kernel
theorem prd_X_factor_175 : decode prb_X_factor 175 = .ok (.bipush 16, 2) := by decide +kernel
theorem prd_X_factor_177 : decode prb_X_factor 177 = .ok (.aload_n 0, 1) := by decide +kernel
theorem prd_X_factor_178 : decode prb_X_factor 178 = .ok (.getfield 16, 3) := by decide +kernel
theorem prd_X_factor_181 : decode prb_X_factor 181 = .ok (.aload_n 0, 1) := by decide +kernel
theorem prd_X_factor_182 : decode prb_X_factor 182 = .ok (.getfield 215, 3) := by decide +kernel
theorem prd_X_factor_185 : decode prb_X_factor 185 = .ok (.iaload, 1) := by decide +kernel
theorem prd_X_factor_186 : decode prb_X_factor 186 = .ok (.iconst 0, 1) := by decide +kernel
theorem prd_X_factor_187 : decode prb_X_factor 187 = .ok (.invokevirtual 228, 3) := by decide +kernel
theorem prd_X_factor_190 : decode prb_X_factor 190 = .ok (.istore_n 3, 1) := by decide +kernel
theorem prd_X_factor_191 : decode prb_X_factor 191 = .ok (.aload_n 0, 1) := by decide +kernel
theorem prd_X_factor_192 : decode prb_X_factor 192 = .ok (.sipush 307, 3) := by decide +kernel
theorem prd_X_factor_195 : decode prb_X_factor 195 = .ok (.invokevirtual 232, 3) := by decide +kernel
theorem prd_X_factor_198 : decode prb_X_factor 198 = .ok (.aload_n 0, 1) := by decide +kernel
theorem prd_X_factor_199 : decode prb_X_factor 199 = .ok (.invokevirtual 218, 3) := by decide +kernel
theorem prd_X_factor_202 : decode prb_X_factor 202 = .ok (.bipush 40, 2) := by decide +kernel
theorem prd_X_factor_204 : decode prb_X_factor 204 = .ok (.if_icmp .ne 41, 3) := by decide +kernel
theorem prd_X_factor_245 : decode prb_X_factor 245 = .ok (.iload_n 3, 1) := by decide +kernel
theorem prd_X_factor_246 : decode prb_X_factor 246 = .ok (.ireturn, 1) := by decide +kernel
theorem prd_X_factor_207 : decode prb_X_factor 207 = .ok (.aload_n 0, 1) := by decide +kernel
theorem prd_X_factor_208 : decode prb_X_factor 208 = .ok (.bipush 40, 2) := by decide +kernel
theorem prd_X_factor_210 : decode prb_X_factor 210 = .ok (.invokevirtual 232, 3) := by decide +kernel
theorem prd_X_factor_213 : decode prb_X_factor 213 = .ok (.aload_n 0, 1) := by decide +kernel
theorem prd_X_factor_214 : decode prb_X_factor 214 = .ok (.iload_n 3, 1) := by decide +kernel
theorem prd_X_factor_215 : decode prb_X_factor 215 = .ok (.aload_n 0, 1) := by decide +kernel
theorem prd_X_factor_216 : decode prb_X_factor 216 = .ok (.iconst 1, 1) := by decide +kernel
theorem prd_X_factor_217 : decode prb_X_factor 217 = .ok (.invokevirtual 249, 3) := by decide +kernel
theorem prd_X_factor_220 : decode prb_X_factor 220 = .ok (.invokevirtual 242, 3) := by decide +kernel
theorem prd_X_factor_223 : decode prb_X_factor 223 = .ok (.aload_n 0, 1) := by decide +kernel
theorem prd_X_factor_224 : decode prb_X_factor 224 = .ok (.bipush 44, 2) := by decide +kernel
theorem prd_X_factor_226 : decode prb_X_factor 226 = .ok (.invokevirtual 232, 3) := by decide +kernel
theorem prd_X_factor_229 : decode prb_X_factor 229 = .ok (.aload_n 0, 1) := by decide +kernel
theorem prd_X_factor_230 : decode prb_X_factor 230 = .ok (.iload_n 3, 1) := by decide +kernel
theorem prd_X_factor_231 : decode prb_X_factor 231 = .ok (.aload_n 0, 1) := by decide +kernel
theorem prd_X_factor_232 : decode prb_X_factor 232 = .ok (.iconst 1, 1) := by decide +kernel
theorem prd_X_factor_233 : decode prb_X_factor 233 = .ok (.invokevirtual 249, 3) := by decide +kernel
theorem prd_X_factor_236 : decode prb_X_factor 236 = .ok (.invokevirtual 242, 3) := by decide +kernel
theorem prd_X_factor_239 : decode prb_X_factor 239 = .ok (.aload_n 0, 1) := by decide +kernel
theorem prd_X_factor_240 : decode prb_X_factor 240 = .ok (.bipush 41, 2) := by decide +kernel
theorem prd_X_factor_242 : decode prb_X_factor 242 = .ok (.invokevirtual 232, 3) := by decide +kernel
theorem prd_X_factor_112 : decode prb_X_factor 112 = .ok (.aload_n 0, 1) := by decide +kernel
theorem prd_X_factor_113 : decode prb_X_factor 113 = .ok (.bipush 15, 2) := by decide +kernel
theorem prd_X_factor_115 : decode prb_X_factor 115 = .ok (.aload_n 0, 1) := by decide +kernel
theorem prd_X_factor_116 : decode prb_X_factor 116 = .ok (.getfield 16, 3) := by decide +kernel
theorem prd_X_factor_119 : decode prb_X_factor 119 = .ok (.aload_n 0, 1) := by decide +kernel
theorem prd_X_factor_120 : decode prb_X_factor 120 = .ok (.getfield 215, 3) := by decide +kernel
theorem prd_X_factor_123 : decode prb_X_factor 123 = .ok (.iaload, 1) := by decide +kernel
theorem prd_X_factor_124 : decode prb_X_factor 124 = .ok (.iconst 0, 1) := by decide +kernel
theorem prd_X_factor_125 : decode prb_X_factor 125 = .ok (.invokevirtual 228, 3) := by decide +kernel
theorem prd_X_factor_128 : decode prb_X_factor 128 = .ok (.istore_n 3, 1) := by decide +kernel
theorem prd_X_factor_129 : decode prb_X_factor 129 = .ok (.aload_n 0, 1) := by decide +kernel
theorem prd_X_factor_130 : decode prb_X_factor 130 = .ok (.bipush 45, 2) := by decide +kernel
theorem prd_X_factor_132 : decode prb_X_factor 132 = .ok (.invokevirtual 232, 3) := by decide +kernel
theorem prd_X_factor_135 : decode prb_X_factor 135 = .ok (.aload_n 0, 1) := by decide +kernel
theorem prd_X_factor_136 : decode prb_X_factor 136 = .ok (.iload_n 1, 1) := by decide +kernel
theorem prd_X_factor_137 : decode prb_X_factor 137 = .ok (.iconst 1, 1) := by decide +kernel
theorem prd_X_factor_138 : decode prb_X_factor 138 = .ok (.iadd, 1) := by decide +kernel
theorem prd_X_factor_139 : decode prb_X_factor 139 = .ok (.invokevirtual 236, 3) := by decide +kernel
theorem prd_X_factor_142 : decode prb_X_factor 142 = .ok (.aload_n 0, 1) := by decide +kernel
theorem prd_X_factor_143 : decode prb_X_factor 143 = .ok (.iload_n 3, 1) := by decide +kernel
theorem prd_X_factor_144 : decode prb_X_factor 144 = .ok (.aload_n 0, 1) := by decide +kernel
theorem prd_X_factor_145 : decode prb_X_factor 145 = .ok (.getfield 211, 3) := by decide +kernel
theorem prd_X_factor_148 : decode prb_X_factor 148 = .ok (.ifCond .eq 7, 3) := by decide +kernel
theorem prd_X_factor_155 : decode prb_X_factor 155 = .ok (.aload_n 0, 1) := by decide +kernel
theorem prd_X_factor_156 : decode prb_X_factor 156 = .ok (.iload_n 1, 1) := by decide +kernel
theorem prd_X_factor_157 : decode prb_X_factor 157 = .ok (.iconst 1, 1) := by decide +kernel
theorem prd_X_factor_158 : decode prb_X_factor 158 = .ok (.iadd, 1) := by decide +kernel
theorem prd_X_factor_159 : decode prb_X_factor 159 = .ok (.invokevirtual 246, 3) := by decide +kernel
theorem prd_X_factor_162 : decode prb_X_factor 162 = .ok (.invokevirtual 242, 3) := by decide +kernel
theorem prd_X_factor_165 : decode prb_X_factor 165 = .ok (.iload_n 3, 1) := by decide +kernel
theorem prd_X_factor_166 : decode prb_X_factor 166 = .ok (.ireturn, 1) := by decide +kernel
theorem prd_X_factor_151 : decode prb_X_factor 151 = .ok (.iconst (-1), 1) := by decide +kernel
theorem prd_X_factor_152 : decode prb_X_factor 152 = .ok (.goto 10, 3) := by decide +kernel
theorem prd_X_factor_21 : decode prb_X_factor 21 = .ok (.aload_n 0, 1) := by decide +kernel
theorem prd_X_factor_22 : decode prb_X_factor 22 = .ok (.getfield 16, 3) := by decide +kernel
theorem prd_X_factor_25 : decode prb_X_factor 25 = .ok (.aload_n 0, 1) := by decide +kernel
theorem prd_X_factor_26 : decode prb_X_factor 26 = .ok (.getfield 215, 3) := by decide +kernel
theorem prd_X_factor_29 : decode prb_X_factor 29 = .ok (.iaload, 1) := by decide +kernel
theorem prd_X_factor_30 : decode prb_X_factor 30 = .ok (.istore_n 3, 1) := by decide +kernel
theorem prd_X_factor_31 : decode prb_X_factor 31 = .ok (.aload_n 0, 1) := by decide +kernel
theorem prd_X_factor_32 : decode prb_X_factor 32 = .ok (.invokevirtual 253, 3) := by decide +kernel
theorem prd_X_factor_35 : decode prb_X_factor 35 = .ok (.istore 4, 2) := by decide +kernel
theorem prd_X_factor_37 : decode prb_X_factor 37 = .ok (.aload_n 0, 1) := by decide +kernel
theorem prd_X_factor_38 : decode prb_X_factor 38 = .ok (.invokevirtual 218, 3) := by decide +kernel
theorem prd_X_factor_41 : decode prb_X_factor 41 = .ok (.bipush 91, 2) := by decide +kernel
theorem prd_X_factor_43 : decode prb_X_factor 43 = .ok (.if_icmp .eq 6, 3) := by decide +kernel
theorem prd_X_factor_49 : decode prb_X_factor 49 = .ok (.aload_n 0, 1) := by decide +kernel
theorem prd_X_factor_50 : decode prb_X_factor 50 = .ok (.bipush 14, 2) := by decide +kernel
theorem prd_X_factor_52 : decode prb_X_factor 52 = .ok (.iload_n 3, 1) := by decide +kernel
theorem prd_X_factor_53 : decode prb_X_factor 53 = .ok (.iconst 0, 1) := by decide +kernel
theorem prd_X_factor_54 : decode prb_X_factor 54 = .ok (.invokevirtual 228, 3) := by decide +kernel
theorem prd_X_factor_57 : decode prb_X_factor 57 = .ok (.istore 5, 2) := by decide +kernel
theorem prd_X_factor_59 : decode prb_X_factor 59 = .ok (.aload_n 0, 1) := by decide +kernel
theorem prd_X_factor_60 : decode prb_X_factor 60 = .ok (.iload 5, 2) := by decide +kernel
theorem prd_X_factor_62 : decode prb_X_factor 62 = .ok (.iload 4, 2) := by decide +kernel
theorem prd_X_factor_64 : decode prb_X_factor 64 = .ok (.invokevirtual 242, 3) := by decide +kernel
theorem prd_X_factor_67 : decode prb_X_factor 67 = .ok (.aload_n 0, 1) := by decide +kernel
theorem prd_X_factor_68 : decode prb_X_factor 68 = .ok (.bipush 91, 2) := by decide +kernel
theorem prd_X_factor_70 : decode prb_X_factor 70 = .ok (.invokevirtual 232, 3) := by decide +kernel
theorem prd_X_factor_73 : decode prb_X_factor 73 = .ok (.aload_n 0, 1) := by decide +kernel
theorem prd_X_factor_74 : decode prb_X_factor 74 = .ok (.iload 5, 2) := by decide +kernel
theorem prd_X_factor_76 : decode prb_X_factor 76 = .ok (.aload_n 0, 1) := by decide +kernel
theorem prd_X_factor_77 : decode prb_X_factor 77 = .ok (.getfield 211, 3) := by decide +kernel
theorem prd_X_factor_80 : decode prb_X_factor 80 = .ok (.ifCond .eq 7, 3) := by decide +kernel
theorem prd_X_factor_87 : decode prb_X_factor 87 = .ok (.aload_n 0, 1) := by decide +kernel
theorem prd_X_factor_88 : decode prb_X_factor 88 = .ok (.iload_n 1, 1) := by decide +kernel
theorem prd_X_factor_89 : decode prb_X_factor 89 = .ok (.iconst 1, 1) := by decide +kernel
theorem prd_X_factor_90 : decode prb_X_factor 90 = .ok (.iadd, 1) := by decide +kernel
theorem prd_X_factor_91 : decode prb_X_factor 91 = .ok (.invokevirtual 256, 3) := by decide +kernel

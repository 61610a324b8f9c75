/-! DECODE ROWS -/
theorem prd_X_point_121 : decode prb_X_point 121 = .ok (.iload_n 1, 1) := by decide +kernel
theorem prd_X_point_122 : decode prb_X_point 122 = .ok (.iaload, 1) := by decide +kernel
theorem prd_X_point_123 : decode prb_X_point 123 = .ok (.goto 8, 3) := by decide +kernel
theorem prd_X_point_103 : decode prb_X_point 103 = .ok (.aload_n 0, 1) := by decide +kernel
theorem prd_X_point_104 : decode prb_X_point 104 = .ok (.getfield 77, 3) := by decide +kernel
theorem prd_X_point_107 : decode prb_X_point 107 = .ok (.iload_n 1, 1) := by decide +kernel
theorem prd_X_point_108 : decode prb_X_point 108 = .ok (.iaload, 1) := by decide +kernel
theorem prd_X_point_109 : decode prb_X_point 109 = .ok (.goto 22, 3) := by decide +kernel
theorem prd_X_point_80 : decode prb_X_point 80 = .ok (.iload_n 3, 1) := by decide +kernel
theorem prd_X_point_81 : decode prb_X_point 81 = .ok (.iconst (-1), 1) := by decide +kernel
theorem prd_X_point_82 : decode prb_X_point 82 = .ok (.if_icmp .ne 7, 3) := by decide +kernel
theorem prd_X_point_89 : decode prb_X_point 89 = .ok (.aload_n 0, 1) := by decide +kernel
theorem prd_X_point_90 : decode prb_X_point 90 = .ok (.getfield 50, 3) := by decide +kernel
theorem prd_X_point_93 : decode prb_X_point 93 = .ok (.iload_n 3, 1) := by decide +kernel
theorem prd_X_point_94 : decode prb_X_point 94 = .ok (.iaload, 1) := by decide +kernel
theorem prd_X_point_95 : decode prb_X_point 95 = .ok (.goto 36, 3) := by decide +kernel
theorem prd_X_point_85 : decode prb_X_point 85 = .ok (.iconst 0, 1) := by decide +kernel
theorem prd_X_point_86 : decode prb_X_point 86 = .ok (.goto 45, 3) := by decide +kernel
theorem prd_X_point_34 : decode prb_X_point 34 = .ok (.iload_n 3, 1) := by decide +kernel
theorem prd_X_point_35 : decode prb_X_point 35 = .ok (.iconst (-1), 1) := by decide +kernel
theorem prd_X_point_36 : decode prb_X_point 36 = .ok (.if_icmp .ne 7, 3) := by decide +kernel
theorem prd_X_point_43 : decode prb_X_point 43 = .ok (.aload_n 0, 1) := by decide +kernel
theorem prd_X_point_44 : decode prb_X_point 44 = .ok (.getfield 47, 3) := by decide +kernel
theorem prd_X_point_47 : decode prb_X_point 47 = .ok (.iload_n 3, 1) := by decide +kernel
theorem prd_X_point_48 : decode prb_X_point 48 = .ok (.iaload, 1) := by decide +kernel
theorem prd_X_point_49 : decode prb_X_point 49 = .ok (.istore 4, 2) := by decide +kernel
theorem prd_X_point_51 : decode prb_X_point 51 = .ok (.iload 4, 2) := by decide +kernel
theorem prd_X_point_53 : decode prb_X_point 53 = .ok (.ifCond .ne 7, 3) := by decide +kernel
theorem prd_X_point_60 : decode prb_X_point 60 = .ok (.iload 4, 2) := by decide +kernel
theorem prd_X_point_62 : decode prb_X_point 62 = .ok (.iconst 5, 1) := by decide +kernel
theorem prd_X_point_63 : decode prb_X_point 63 = .ok (.if_icmp .ge 7, 3) := by decide +kernel
theorem prd_X_point_70 : decode prb_X_point 70 = .ok (.iload 4, 2) := by decide +kernel
theorem prd_X_point_72 : decode prb_X_point 72 = .ok (.iconst 3, 1) := by decide +kernel
theorem prd_X_point_73 : decode prb_X_point 73 = .ok (.isub, 1) := by decide +kernel
theorem prd_X_point_74 : decode prb_X_point 74 = .ok (.ireturn, 1) := by decide +kernel
theorem prd_X_point_66 : decode prb_X_point 66 = .ok (.iconst 1, 1) := by decide +kernel
theorem prd_X_point_67 : decode prb_X_point 67 = .ok (.goto 7, 3) := by decide +kernel
theorem prd_X_point_56 : decode prb_X_point 56 = .ok (.iconst 0, 1) := by decide +kernel
theorem prd_X_point_57 : decode prb_X_point 57 = .ok (.goto 17, 3) := by decide +kernel
theorem prd_X_point_39 : decode prb_X_point 39 = .ok (.iconst 0, 1) := by decide +kernel
theorem prd_X_point_40 : decode prb_X_point 40 = .ok (.goto 9, 3) := by decide +kernel
theorem prd_X_input_0 : decode prb_X_input 0 = .ok (.aload_n 0, 1) := by decide +kernel
theorem prd_X_input_1 : decode prb_X_input 1 = .ok (.getfield 374, 3) := by decide +kernel
theorem prd_X_input_4 : decode prb_X_input 4 = .ok (.sipush 400, 3) := by decide +kernel
theorem prd_X_input_7 : decode prb_X_input 7 = .ok (.if_icmp .ne 5, 3) := by decide +kernel
theorem prd_X_input_12 : decode prb_X_input 12 = .ok (.aload_n 0, 1) := by decide +kernel
theorem prd_X_input_13 : decode prb_X_input 13 = .ok (.getfield 110, 3) := by decide +kernel
theorem prd_X_input_16 : decode prb_X_input 16 = .ok (.aload_n 0, 1) := by decide +kernel
theorem prd_X_input_17 : decode prb_X_input 17 = .ok (.getfield 374, 3) := by decide +kernel
theorem prd_X_input_20 : decode prb_X_input 20 = .ok (.iload_n 1, 1) := by decide +kernel
theorem prd_X_input_21 : decode prb_X_input 21 = .ok (.iastore, 1) := by decide +kernel
theorem prd_X_input_22 : decode prb_X_input 22 = .ok (.aload_n 0, 1) := by decide +kernel
theorem prd_X_input_23 : decode prb_X_input 23 = .ok (.dup, 1) := by decide +kernel
theorem prd_X_input_24 : decode prb_X_input 24 = .ok (.getfield 374, 3) := by decide +kernel
theorem prd_X_input_27 : decode prb_X_input 27 = .ok (.iconst 1, 1) := by decide +kernel
theorem prd_X_input_28 : decode prb_X_input 28 = .ok (.iadd, 1) := by decide +kernel
theorem prd_X_input_29 : decode prb_X_input 29 = .ok (.putfield 374, 3) := by decide +kernel
theorem prd_X_input_32 : decode prb_X_input 32 = .ok (.aload_n 0, 1) := by decide +kernel
theorem prd_X_input_33 : decode prb_X_input 33 = .ok (.getfield 374, 3) := by decide +kernel
theorem prd_X_input_36 : decode prb_X_input 36 = .ok (.ireturn, 1) := by decide +kernel
theorem prd_X_input_10 : decode prb_X_input 10 = .ok (.iconst (-1), 1) := by decide +kernel
theorem prd_X_input_11 : decode prb_X_input 11 = .ok (.ireturn, 1) := by decide +kernel
theorem prd_X_drop_0 : decode prb_X_drop 0 = .ok (.aload_n 0, 1) := by decide +kernel
theorem prd_X_drop_1 : decode prb_X_drop 1 = .ok (.getfield 374, 3) := by decide +kernel
theorem prd_X_drop_4 : decode prb_X_drop 4 = .ok (.istore_n 1, 1) := by decide +kernel
theorem prd_X_drop_5 : decode prb_X_drop 5 = .ok (.aload_n 0, 1) := by decide +kernel
theorem prd_X_drop_6 : decode prb_X_drop 6 = .ok (.iconst 0, 1) := by decide +kernel
theorem prd_X_drop_7 : decode prb_X_drop 7 = .ok (.putfield 374, 3) := by decide +kernel
theorem prd_X_drop_10 : decode prb_X_drop 10 = .ok (.iload_n 1, 1) := by decide +kernel
theorem prd_X_drop_11 : decode prb_X_drop 11 = .ok (.ireturn, 1) := by decide +kernel
theorem prd_X_meantAt_0 : decode prb_X_meantAt 0 = .ok (.aload_n 0, 1) := by decide +kernel
theorem prd_X_meantAt_1 : decode prb_X_meantAt 1 = .ok (.getfield 83, 3) := by decide +kernel
theorem prd_X_meantAt_4 : decode prb_X_meantAt 4 = .ok (.aload_n 0, 1) := by decide +kernel
theorem prd_X_meantAt_5 : decode prb_X_meantAt 5 = .ok (.getfield 151, 3) := by decide +kernel
theorem prd_X_meantAt_8 : decode prb_X_meantAt 8 = .ok (.iaload, 1) := by decide +kernel
theorem prd_X_meantAt_9 : decode prb_X_meantAt 9 = .ok (.iconst 1, 1) := by decide +kernel
theorem prd_X_meantAt_10 : decode prb_X_meantAt 10 = .ok (.isub, 1) := by decide +kernel
theorem prd_X_meantAt_11 : decode prb_X_meantAt 11 = .ok (.istore_n 2, 1) := by decide +kernel
theorem prd_X_meantAt_12 : decode prb_X_meantAt 12 = .ok (.iload_n 2, 1) := by decide +kernel
theorem prd_X_meantAt_13 : decode prb_X_meantAt 13 = .ok (.ifCond .lt 37, 3) := by decide +kernel
theorem prd_X_meantAt_50 : decode prb_X_meantAt 50 = .ok (.iconst (-1), 1) := by decide +kernel
theorem prd_X_meantAt_51 : decode prb_X_meantAt 51 = .ok (.ireturn, 1) := by decide +kernel
theorem prd_X_meantAt_16 : decode prb_X_meantAt 16 = .ok (.aload_n 0, 1) := by decide +kernel
theorem prd_X_meantAt_17 : decode prb_X_meantAt 17 = .ok (.getfield 86, 3) := by decide +kernel
theorem prd_X_meantAt_20 : decode prb_X_meantAt 20 = .ok (.bipush 40, 2) := by decide +kernel
theorem prd_X_meantAt_22 : decode prb_X_meantAt 22 = .ok (.aload_n 0, 1) := by decide +kernel
theorem prd_X_meantAt_23 : decode prb_X_meantAt 23 = .ok (.getfield 151, 3) := by decide +kernel
theorem prd_X_meantAt_26 : decode prb_X_meantAt 26 = .ok (.imul, 1) := by decide +kernel
theorem prd_X_meantAt_27 : decode prb_X_meantAt 27 = .ok (.iload_n 2, 1) := by decide +kernel
theorem prd_X_meantAt_28 : decode prb_X_meantAt 28 = .ok (.iadd, 1) := by decide +kernel
theorem prd_X_meantAt_29 : decode prb_X_meantAt 29 = .ok (.iaload, 1) := by decide +kernel
theorem prd_X_meantAt_30 : decode prb_X_meantAt 30 = .ok (.iload_n 1, 1) := by decide +kernel
theorem prd_X_meantAt_31 : decode prb_X_meantAt 31 = .ok (.if_icmp .ne 13, 3) := by decide +kernel
theorem prd_X_meantAt_44 : decode prb_X_meantAt 44 = .ok (.iinc 2 (-1), 3) := by decide +kernel
theorem prd_X_meantAt_47 : decode prb_X_meantAt 47 = .ok (.goto (-35), 3) := by decide +kernel
theorem prd_X_meantAt_34 : decode prb_X_meantAt 34 = .ok (.bipush 40, 2) := by decide +kernel
theorem prd_X_meantAt_36 : decode prb_X_meantAt 36 = .ok (.aload_n 0, 1) := by decide +kernel
theorem prd_X_meantAt_37 : decode prb_X_meantAt 37 = .ok (.getfield 151, 3) := by decide +kernel
theorem prd_X_meantAt_40 : decode prb_X_meantAt 40 = .ok (.imul, 1) := by decide +kernel
theorem prd_X_meantAt_41 : decode prb_X_meantAt 41 = .ok (.iload_n 2, 1) := by decide +kernel
theorem prd_X_meantAt_42 : decode prb_X_meantAt 42 = .ok (.iadd, 1) := by decide +kernel
theorem prd_X_meantAt_43 : decode prb_X_meantAt 43 = .ok (.ireturn, 1) := by decide +kernel
theorem prd_X_trapped_0 : decode prb_X_trapped 0 = .ok (.aload_n 0, 1) := by decide +kernel
theorem prd_X_trapped_1 : decode prb_X_trapped 1 = .ok (.aload_n 0, 1) := by decide +kernel
theorem prd_X_trapped_2 : decode prb_X_trapped 2 = .ok (.getfield 377, 3) := by decide +kernel
theorem prd_X_trapped_5 : decode prb_X_trapped 5 = .ok (.ifCond .ne 7, 3) := by decide +kernel
theorem prd_X_trapped_12 : decode prb_X_trapped 12 = .ok (.aload_n 0, 1) := by decide +kernel
theorem prd_X_trapped_13 : decode prb_X_trapped 13 = .ok (.getfield 377, 3) := by decide +kernel
theorem prd_X_trapped_16 : decode prb_X_trapped 16 = .ok (.putfield 377, 3) := by decide +kernel
theorem prd_X_trapped_19 : decode prb_X_trapped 19 = .ok (.lconst 0, 1) := by decide +kernel
theorem prd_X_trapped_20 : decode prb_X_trapped 20 = .ok (.lreturn, 1) := by decide +kernel
theorem prd_X_trapped_8 : decode prb_X_trapped 8 = .ok (.iload_n 1, 1) := by decide +kernel
theorem prd_X_trapped_9 : decode prb_X_trapped 9 = .ok (.goto 7, 3) := by decide +kernel
theorem prd_X_whole_0 : decode prb_X_whole 0 = .ok (.lload_n 1, 1) := by decide +kernel
theorem prd_X_whole_1 : decode prb_X_whole 1 = .ok (.ldc2_w 380, 3) := by decide +kernel
theorem prd_X_whole_4 : decode prb_X_whole 4 = .ok (.lcmp, 1) := by decide +kernel
theorem prd_X_whole_5 : decode prb_X_whole 5 = .ok (.ifCond .lt 11, 3) := by decide +kernel
theorem prd_X_whole_16 : decode prb_X_whole 16 = .ok (.aload_n 0, 1) := by decide +kernel
theorem prd_X_whole_17 : decode prb_X_whole 17 = .ok (.iconst 1, 1) := by decide +kernel
theorem prd_X_whole_18 : decode prb_X_whole 18 = .ok (.invokevirtual 382, 3) := by decide +kernel
theorem prd_X_whole_21 : decode prb_X_whole 21 = .ok (.goto 4, 3) := by decide +kernel
theorem prd_X_whole_25 : decode prb_X_whole 25 = .ok (.lreturn, 1) := by decide +kernel
theorem prd_X_whole_8 : decode prb_X_whole 8 = .ok (.lload_n 1, 1) := by decide +kernel
theorem prd_X_whole_9 : decode prb_X_whole 9 = .ok (.ldc2_w 187, 3) := by decide +kernel
theorem prd_X_whole_12 : decode prb_X_whole 12 = .ok (.lcmp, 1) := by decide +kernel
theorem prd_X_whole_13 : decode prb_X_whole 13 = .ok (.ifCond .le 11, 3) := by decide +kernel
theorem prd_X_whole_24 : decode prb_X_whole 24 = .ok (.lload_n 1, 1) := by decide +kernel
theorem prd_X_next_0 : decode prb_X_next 0 = .ok (.aload_n 0, 1) := by decide +kernel
theorem prd_X_next_1 : decode prb_X_next 1 = .ok (.dup, 1) := by decide +kernel
theorem prd_X_next_2 : decode prb_X_next 2 = .ok (.getfield 386, 3) := by decide +kernel
theorem prd_X_next_5 : decode prb_X_next 5 = .ok (.iconst 1, 1) := by decide +kernel
theorem prd_X_next_6 : decode prb_X_next 6 = .ok (.iadd, 1) := by decide +kernel
theorem prd_X_next_7 : decode prb_X_next 7 = .ok (.putfield 386, 3) := by decide +kernel
theorem prd_X_next_10 : decode prb_X_next 10 = .ok (.aload_n 0, 1) := by decide +kernel
theorem prd_X_next_11 : decode prb_X_next 11 = .ok (.getfield 386, 3) := by decide +kernel
theorem prd_X_next_14 : decode prb_X_next 14 = .ok (.aload_n 0, 1) := by decide +kernel
theorem prd_X_next_15 : decode prb_X_next 15 = .ok (.getfield 374, 3) := by decide +kernel
theorem prd_X_next_18 : decode prb_X_next 18 = .ok (.if_icmp .gt 17, 3) := by decide +kernel
theorem prd_X_next_35 : decode prb_X_next 35 = .ok (.iconst 0, 1) := by decide +kernel
theorem prd_X_next_36 : decode prb_X_next 36 = .ok (.ireturn, 1) := by decide +kernel
theorem prd_X_next_21 : decode prb_X_next 21 = .ok (.aload_n 0, 1) := by decide +kernel
theorem prd_X_next_22 : decode prb_X_next 22 = .ok (.getfield 110, 3) := by decide +kernel
theorem prd_X_next_25 : decode prb_X_next 25 = .ok (.aload_n 0, 1) := by decide +kernel
theorem prd_X_next_26 : decode prb_X_next 26 = .ok (.getfield 386, 3) := by decide +kernel
theorem prd_X_next_29 : decode prb_X_next 29 = .ok (.iconst 1, 1) := by decide +kernel
theorem prd_X_next_30 : decode prb_X_next 30 = .ok (.isub, 1) := by decide +kernel
theorem prd_X_next_31 : decode prb_X_next 31 = .ok (.iaload, 1) := by decide +kernel
theorem prd_X_next_32 : decode prb_X_next 32 = .ok (.goto 4, 3) := by decide +kernel
theorem prd_X_operated_0 : decode prb_X_operated 0 = .ok (.iload_n 1, 1) := by decide +kernel
theorem prd_X_operated_1 : decode prb_X_operated 1 = .ok (.bipush 21, 2) := by decide +kernel
theorem prd_X_operated_3 : decode prb_X_operated 3 = .ok (.if_icmp .le 16, 3) := by decide +kernel
theorem prd_X_operated_6 : decode prb_X_operated 6 = .ok (.lload 4, 2) := by decide +kernel
theorem prd_X_operated_8 : decode prb_X_operated 8 = .ok (.lconst 0, 1) := by decide +kernel
theorem prd_X_operated_9 : decode prb_X_operated 9 = .ok (.lcmp, 1) := by decide +kernel
theorem prd_X_operated_10 : decode prb_X_operated 10 = .ok (.ifCond .ne 9, 3) := by decide +kernel
theorem prd_X_operated_13 : decode prb_X_operated 13 = .ok (.aload_n 0, 1) := by decide +kernel
theorem prd_X_operated_14 : decode prb_X_operated 14 = .ok (.iconst 2, 1) := by decide +kernel
theorem prd_X_operated_15 : decode prb_X_operated 15 = .ok (.invokevirtual 382, 3) := by decide +kernel
theorem prd_X_operated_18 : decode prb_X_operated 18 = .ok (.lreturn, 1) := by decide +kernel
theorem prd_X_operated_19 : decode prb_X_operated 19 = .ok (.aload_n 0, 1) := by decide +kernel
theorem prd_X_operated_20 : decode prb_X_operated 20 = .ok (.iload_n 1, 1) := by decide +kernel
theorem prd_X_operated_21 : decode prb_X_operated 21 = .ok (.bipush 18, 2) := by decide +kernel
theorem prd_X_operated_23 : decode prb_X_operated 23 = .ok (.if_icmp .ne 10, 3) := by decide +kernel
theorem prd_X_operated_33 : decode prb_X_operated 33 = .ok (.iload_n 1, 1) := by decide +kernel
theorem prd_X_operated_34 : decode prb_X_operated 34 = .ok (.bipush 19, 2) := by decide +kernel
theorem prd_X_operated_36 : decode prb_X_operated 36 = .ok (.if_icmp .ne 10, 3) := by decide +kernel
theorem prd_X_operated_46 : decode prb_X_operated 46 = .ok (.iload_n 1, 1) := by decide +kernel
theorem prd_X_operated_47 : decode prb_X_operated 47 = .ok (.bipush 21, 2) := by decide +kernel
theorem prd_X_operated_49 : decode prb_X_operated 49 = .ok (.if_icmp .ne 10, 3) := by decide +kernel
theorem prd_X_operated_59 : decode prb_X_operated 59 = .ok (.iload_n 1, 1) := by decide +kernel
theorem prd_X_operated_60 : decode prb_X_operated 60 = .ok (.bipush 22, 2) := by decide +kernel
theorem prd_X_operated_62 : decode prb_X_operated 62 = .ok (.if_icmp .ne 10, 3) := by decide +kernel
theorem prd_X_operated_72 : decode prb_X_operated 72 = .ok (.lload_n 2, 1) := by decide +kernel
theorem prd_X_operated_73 : decode prb_X_operated 73 = .ok (.lload 4, 2) := by decide +kernel
theorem prd_X_operated_75 : decode prb_X_operated 75 = .ok (.lrem, 1) := by decide +kernel
theorem prd_X_operated_76 : decode prb_X_operated 76 = .ok (.invokevirtual 397, 3) := by decide +kernel
theorem prd_X_operated_79 : decode prb_X_operated 79 = .ok (.lreturn, 1) := by decide +kernel
theorem prd_X_operated_65 : decode prb_X_operated 65 = .ok (.lload_n 2, 1) := by decide +kernel
theorem prd_X_operated_66 : decode prb_X_operated 66 = .ok (.lload 4, 2) := by decide +kernel
theorem prd_X_operated_68 : decode prb_X_operated 68 = .ok (.ldiv, 1) := by decide +kernel
theorem prd_X_operated_69 : decode prb_X_operated 69 = .ok (.goto 7, 3) := by decide +kernel
theorem prd_X_operated_52 : decode prb_X_operated 52 = .ok (.lload_n 2, 1) := by decide +kernel
theorem prd_X_operated_53 : decode prb_X_operated 53 = .ok (.lload 4, 2) := by decide +kernel
theorem prd_X_operated_55 : decode prb_X_operated 55 = .ok (.lmul, 1) := by decide +kernel
theorem prd_X_operated_56 : decode prb_X_operated 56 = .ok (.goto 20, 3) := by decide +kernel
theorem prd_X_operated_39 : decode prb_X_operated 39 = .ok (.lload_n 2, 1) := by decide +kernel
theorem prd_X_operated_40 : decode prb_X_operated 40 = .ok (.lload 4, 2) := by decide +kernel
theorem prd_X_operated_42 : decode prb_X_operated 42 = .ok (.lsub, 1) := by decide +kernel
theorem prd_X_operated_43 : decode prb_X_operated 43 = .ok (.goto 33, 3) := by decide +kernel
theorem prd_X_operated_26 : decode prb_X_operated 26 = .ok (.lload_n 2, 1) := by decide +kernel
theorem prd_X_operated_27 : decode prb_X_operated 27 = .ok (.lload 4, 2) := by decide +kernel
theorem prd_X_operated_29 : decode prb_X_operated 29 = .ok (.ladd, 1) := by decide +kernel
theorem prd_X_operated_30 : decode prb_X_operated 30 = .ok (.goto 46, 3) := by decide +kernel
theorem prd_X_placeOf_0 : decode prb_X_placeOf 0 = .ok (.aload_n 0, 1) := by decide +kernel
theorem prd_X_placeOf_1 : decode prb_X_placeOf 1 = .ok (.iload_n 2, 1) := by decide +kernel
theorem prd_X_placeOf_2 : decode prb_X_placeOf 2 = .ok (.invokevirtual 389, 3) := by decide +kernel
theorem prd_X_placeOf_5 : decode prb_X_placeOf 5 = .ok (.lstore_n 3, 1) := by decide +kernel
theorem prd_X_placeOf_6 : decode prb_X_placeOf 6 = .ok (.aload_n 0, 1) := by decide +kernel
theorem prd_X_placeOf_7 : decode prb_X_placeOf 7 = .ok (.aload_n 0, 1) := by decide +kernel
theorem prd_X_placeOf_8 : decode prb_X_placeOf 8 = .ok (.getfield 53, 3) := by decide +kernel
theorem prd_X_placeOf_11 : decode prb_X_placeOf 11 = .ok (.iload_n 1, 1) := by decide +kernel
theorem prd_X_placeOf_12 : decode prb_X_placeOf 12 = .ok (.iaload, 1) := by decide +kernel
theorem prd_X_placeOf_13 : decode prb_X_placeOf 13 = .ok (.invokevirtual 392, 3) := by decide +kernel
theorem prd_X_placeOf_16 : decode prb_X_placeOf 16 = .ok (.istore 5, 2) := by decide +kernel
theorem prd_X_placeOf_18 : decode prb_X_placeOf 18 = .ok (.aload_n 0, 1) := by decide +kernel
theorem prd_X_placeOf_19 : decode prb_X_placeOf 19 = .ok (.getfield 377, 3) := by decide +kernel
theorem prd_X_placeOf_22 : decode prb_X_placeOf 22 = .ok (.ifCond .ne 28, 3) := by decide +kernel
theorem prd_X_placeOf_25 : decode prb_X_placeOf 25 = .ok (.lload_n 3, 1) := by decide +kernel
theorem prd_X_placeOf_26 : decode prb_X_placeOf 26 = .ok (.lconst 0, 1) := by decide +kernel
theorem prd_X_placeOf_27 : decode prb_X_placeOf 27 = .ok (.lcmp, 1) := by decide +kernel
theorem prd_X_placeOf_28 : decode prb_X_placeOf 28 = .ok (.ifCond .lt 16, 3) := by decide +kernel
theorem prd_X_placeOf_31 : decode prb_X_placeOf 31 = .ok (.lload_n 3, 1) := by decide +kernel
theorem prd_X_placeOf_32 : decode prb_X_placeOf 32 = .ok (.aload_n 0, 1) := by decide +kernel
theorem prd_X_placeOf_33 : decode prb_X_placeOf 33 = .ok (.getfield 92, 3) := by decide +kernel
theorem prd_X_placeOf_36 : decode prb_X_placeOf 36 = .ok (.iload 5, 2) := by decide +kernel
theorem prd_X_placeOf_38 : decode prb_X_placeOf 38 = .ok (.iaload, 1) := by decide +kernel
theorem prd_X_placeOf_39 : decode prb_X_placeOf 39 = .ok (.i2l, 1) := by decide +kernel
theorem prd_X_placeOf_40 : decode prb_X_placeOf 40 = .ok (.lcmp, 1) := by decide +kernel
theorem prd_X_placeOf_41 : decode prb_X_placeOf 41 = .ok (.ifCond .lt 9, 3) := by decide +kernel
theorem prd_X_placeOf_44 : decode prb_X_placeOf 44 = .ok (.aload_n 0, 1) := by decide +kernel
theorem prd_X_placeOf_45 : decode prb_X_placeOf 45 = .ok (.iconst 4, 1) := by decide +kernel
theorem prd_X_placeOf_46 : decode prb_X_placeOf 46 = .ok (.invokevirtual 382, 3) := by decide +kernel
theorem prd_X_placeOf_49 : decode prb_X_placeOf 49 = .ok (.pop2, 1) := by decide +kernel
theorem prd_X_placeOf_50 : decode prb_X_placeOf 50 = .ok (.aload_n 0, 1) := by decide +kernel
theorem prd_X_placeOf_51 : decode prb_X_placeOf 51 = .ok (.getfield 377, 3) := by decide +kernel
theorem prd_X_placeOf_54 : decode prb_X_placeOf 54 = .ok (.ifCond .le 7, 3) := by decide +kernel
theorem prd_X_placeOf_61 : decode prb_X_placeOf 61 = .ok (.bipush 64, 2) := by decide +kernel
theorem prd_X_placeOf_63 : decode prb_X_placeOf 63 = .ok (.aload_n 0, 1) := by decide +kernel
theorem prd_X_placeOf_64 : decode prb_X_placeOf 64 = .ok (.getfield 89, 3) := by decide +kernel
theorem prd_X_placeOf_67 : decode prb_X_placeOf 67 = .ok (.iload 5, 2) := by decide +kernel
theorem prd_X_placeOf_69 : decode prb_X_placeOf 69 = .ok (.iaload, 1) := by decide +kernel
theorem prd_X_placeOf_70 : decode prb_X_placeOf 70 = .ok (.imul, 1) := by decide +kernel
theorem prd_X_placeOf_71 : decode prb_X_placeOf 71 = .ok (.lload_n 3, 1) := by decide +kernel
theorem prd_X_placeOf_72 : decode prb_X_placeOf 72 = .ok (.l2i, 1) := by decide +kernel
theorem prd_X_placeOf_73 : decode prb_X_placeOf 73 = .ok (.iadd, 1) := by decide +kernel
theorem prd_X_placeOf_74 : decode prb_X_placeOf 74 = .ok (.ireturn, 1) := by decide +kernel
theorem prd_X_placeOf_57 : decode prb_X_placeOf 57 = .ok (.iconst 0, 1) := by decide +kernel
theorem prd_X_placeOf_58 : decode prb_X_placeOf 58 = .ok (.goto 16, 3) := by decide +kernel
theorem prd_X_reckon_0 : decode prb_X_reckon 0 = .ok (.aload_n 0, 1) := by decide +kernel
theorem prd_X_reckon_1 : decode prb_X_reckon 1 = .ok (.getfield 377, 3) := by decide +kernel
theorem prd_X_reckon_4 : decode prb_X_reckon 4 = .ok (.ifCond .le 5, 3) := by decide +kernel
theorem prd_X_reckon_9 : decode prb_X_reckon 9 = .ok (.aload_n 0, 1) := by decide +kernel
theorem prd_X_reckon_10 : decode prb_X_reckon 10 = .ok (.getfield 47, 3) := by decide +kernel
theorem prd_X_reckon_13 : decode prb_X_reckon 13 = .ok (.iload_n 1, 1) := by decide +kernel
theorem prd_X_reckon_14 : decode prb_X_reckon 14 = .ok (.iaload, 1) := by decide +kernel
theorem prd_X_reckon_15 : decode prb_X_reckon 15 = .ok (.tableswitch 162 12 16 #[33, 41, 63, 95, 108], 33) := by decide +kernel
theorem prd_X_reckon_48 : decode prb_X_reckon 48 = .ok (.aload_n 0, 1) := by decide +kernel
theorem prd_X_reckon_49 : decode prb_X_reckon 49 = .ok (.getfield 53, 3) := by decide +kernel
theorem prd_X_reckon_52 : decode prb_X_reckon 52 = .ok (.iload_n 1, 1) := by decide +kernel
theorem prd_X_reckon_53 : decode prb_X_reckon 53 = .ok (.iaload, 1) := by decide +kernel
theorem prd_X_reckon_54 : decode prb_X_reckon 54 = .ok (.i2l, 1) := by decide +kernel
theorem prd_X_reckon_55 : decode prb_X_reckon 55 = .ok (.lreturn, 1) := by decide +kernel
theorem prd_X_reckon_56 : decode prb_X_reckon 56 = .ok (.aload_n 0, 1) := by decide +kernel
theorem prd_X_reckon_57 : decode prb_X_reckon 57 = .ok (.getfield 113, 3) := by decide +kernel
theorem prd_X_reckon_60 : decode prb_X_reckon 60 = .ok (.aload_n 0, 1) := by decide +kernel
theorem prd_X_reckon_61 : decode prb_X_reckon 61 = .ok (.getfield 89, 3) := by decide +kernel
theorem prd_X_reckon_64 : decode prb_X_reckon 64 = .ok (.aload_n 0, 1) := by decide +kernel
theorem prd_X_reckon_65 : decode prb_X_reckon 65 = .ok (.aload_n 0, 1) := by decide +kernel
theorem prd_X_reckon_66 : decode prb_X_reckon 66 = .ok (.getfield 53, 3) := by decide +kernel
theorem prd_X_reckon_69 : decode prb_X_reckon 69 = .ok (.iload_n 1, 1) := by decide +kernel
theorem prd_X_reckon_70 : decode prb_X_reckon 70 = .ok (.iaload, 1) := by decide +kernel
theorem prd_X_reckon_71 : decode prb_X_reckon 71 = .ok (.invokevirtual 392, 3) := by decide +kernel
theorem prd_X_reckon_74 : decode prb_X_reckon 74 = .ok (.iaload, 1) := by decide +kernel
theorem prd_X_reckon_75 : decode prb_X_reckon 75 = .ok (.iaload, 1) := by decide +kernel
theorem prd_X_reckon_76 : decode prb_X_reckon 76 = .ok (.i2l, 1) := by decide +kernel
theorem prd_X_reckon_77 : decode prb_X_reckon 77 = .ok (.lreturn, 1) := by decide +kernel
theorem prd_X_reckon_78 : decode prb_X_reckon 78 = .ok (.aload_n 0, 1) := by decide +kernel
theorem prd_X_reckon_79 : decode prb_X_reckon 79 = .ok (.iload_n 1, 1) := by decide +kernel
theorem prd_X_reckon_80 : decode prb_X_reckon 80 = .ok (.iconst 1, 1) := by decide +kernel
theorem prd_X_reckon_81 : decode prb_X_reckon 81 = .ok (.iadd, 1) := by decide +kernel
theorem prd_X_reckon_82 : decode prb_X_reckon 82 = .ok (.aload_n 0, 1) := by decide +kernel
theorem prd_X_reckon_83 : decode prb_X_reckon 83 = .ok (.iload_n 1, 1) := by decide +kernel
theorem prd_X_reckon_84 : decode prb_X_reckon 84 = .ok (.invokevirtual 350, 3) := by decide +kernel
theorem prd_X_reckon_87 : decode prb_X_reckon 87 = .ok (.invokevirtual 395, 3) := by decide +kernel
theorem prd_X_reckon_90 : decode prb_X_reckon 90 = .ok (.istore_n 2, 1) := by decide +kernel
theorem prd_X_reckon_91 : decode prb_X_reckon 91 = .ok (.aload_n 0, 1) := by decide +kernel
theorem prd_X_reckon_92 : decode prb_X_reckon 92 = .ok (.getfield 377, 3) := by decide +kernel
theorem prd_X_reckon_95 : decode prb_X_reckon 95 = .ok (.ifCond .le 7, 3) := by decide +kernel
theorem prd_X_reckon_102 : decode prb_X_reckon 102 = .ok (.aload_n 0, 1) := by decide +kernel
theorem prd_X_reckon_103 : decode prb_X_reckon 103 = .ok (.getfield 116, 3) := by decide +kernel
theorem prd_X_reckon_106 : decode prb_X_reckon 106 = .ok (.iload_n 2, 1) := by decide +kernel
theorem prd_X_reckon_107 : decode prb_X_reckon 107 = .ok (.iaload, 1) := by decide +kernel
theorem prd_X_reckon_108 : decode prb_X_reckon 108 = .ok (.i2l, 1) := by decide +kernel
theorem prd_X_reckon_109 : decode prb_X_reckon 109 = .ok (.lreturn, 1) := by decide +kernel
theorem prd_X_reckon_98 : decode prb_X_reckon 98 = .ok (.lconst 0, 1) := by decide +kernel
theorem prd_X_reckon_99 : decode prb_X_reckon 99 = .ok (.goto 10, 3) := by decide +kernel
theorem prd_X_reckon_110 : decode prb_X_reckon 110 = .ok (.aload_n 0, 1) := by decide +kernel
theorem prd_X_reckon_111 : decode prb_X_reckon 111 = .ok (.aload_n 0, 1) := by decide +kernel
theorem prd_X_reckon_112 : decode prb_X_reckon 112 = .ok (.iload_n 1, 1) := by decide +kernel
theorem prd_X_reckon_113 : decode prb_X_reckon 113 = .ok (.iconst 1, 1) := by decide +kernel
theorem prd_X_reckon_114 : decode prb_X_reckon 114 = .ok (.iadd, 1) := by decide +kernel
theorem prd_X_reckon_115 : decode prb_X_reckon 115 = .ok (.invokevirtual 389, 3) := by decide +kernel
theorem prd_X_reckon_118 : decode prb_X_reckon 118 = .ok (.lneg, 1) := by decide +kernel
theorem prd_X_reckon_119 : decode prb_X_reckon 119 = .ok (.invokevirtual 397, 3) := by decide +kernel
theorem prd_X_reckon_122 : decode prb_X_reckon 122 = .ok (.lreturn, 1) := by decide +kernel
theorem prd_X_reckon_123 : decode prb_X_reckon 123 = .ok (.aload_n 0, 1) := by decide +kernel
theorem prd_X_reckon_124 : decode prb_X_reckon 124 = .ok (.invokevirtual 400, 3) := by decide +kernel
theorem prd_X_reckon_127 : decode prb_X_reckon 127 = .ok (.istore_n 3, 1) := by decide +kernel
theorem prd_X_reckon_128 : decode prb_X_reckon 128 = .ok (.aload_n 0, 1) := by decide +kernel
theorem prd_X_reckon_129 : decode prb_X_reckon 129 = .ok (.getfield 59, 3) := by decide +kernel
theorem prd_X_reckon_132 : decode prb_X_reckon 132 = .ok (.iload_n 1, 1) := by decide +kernel
theorem prd_X_reckon_133 : decode prb_X_reckon 133 = .ok (.iaload, 1) := by decide +kernel
theorem prd_X_reckon_134 : decode prb_X_reckon 134 = .ok (.iconst 1, 1) := by decide +kernel
theorem prd_X_reckon_135 : decode prb_X_reckon 135 = .ok (.if_icmp .eq 27, 3) := by decide +kernel
theorem prd_X_reckon_162 : decode prb_X_reckon 162 = .ok (.iload_n 3, 1) := by decide +kernel
theorem prd_X_reckon_163 : decode prb_X_reckon 163 = .ok (.i2l, 1) := by decide +kernel
theorem prd_X_reckon_164 : decode prb_X_reckon 164 = .ok (.goto 12, 3) := by decide +kernel
theorem prd_X_reckon_176 : decode prb_X_reckon 176 = .ok (.lreturn, 1) := by decide +kernel
theorem prd_X_reckon_138 : decode prb_X_reckon 138 = .ok (.iload_n 3, 1) := by decide +kernel
theorem prd_X_reckon_139 : decode prb_X_reckon 139 = .ok (.aload_n 0, 1) := by decide +kernel
theorem prd_X_reckon_140 : decode prb_X_reckon 140 = .ok (.getfield 53, 3) := by decide +kernel
theorem prd_X_reckon_143 : decode prb_X_reckon 143 = .ok (.iload_n 1, 1) := by decide +kernel
theorem prd_X_reckon_144 : decode prb_X_reckon 144 = .ok (.iconst 1, 1) := by decide +kernel
theorem prd_X_reckon_145 : decode prb_X_reckon 145 = .ok (.iadd, 1) := by decide +kernel
theorem prd_X_reckon_146 : decode prb_X_reckon 146 = .ok (.iaload, 1) := by decide +kernel
theorem prd_X_reckon_147 : decode prb_X_reckon 147 = .ok (.if_icmp .lt 20, 3) := by decide +kernel
theorem prd_X_reckon_167 : decode prb_X_reckon 167 = .ok (.aload_n 0, 1) := by decide +kernel
theorem prd_X_reckon_168 : decode prb_X_reckon 168 = .ok (.getfield 53, 3) := by decide +kernel
theorem prd_X_reckon_171 : decode prb_X_reckon 171 = .ok (.iload_n 1, 1) := by decide +kernel
theorem prd_X_reckon_172 : decode prb_X_reckon 172 = .ok (.iconst 1, 1) := by decide +kernel
theorem prd_X_reckon_173 : decode prb_X_reckon 173 = .ok (.iadd, 1) := by decide +kernel
theorem prd_X_reckon_174 : decode prb_X_reckon 174 = .ok (.iaload, 1) := by decide +kernel
theorem prd_X_reckon_175 : decode prb_X_reckon 175 = .ok (.i2l, 1) := by decide +kernel
theorem prd_X_reckon_150 : decode prb_X_reckon 150 = .ok (.iload_n 3, 1) := by decide +kernel
theorem prd_X_reckon_151 : decode prb_X_reckon 151 = .ok (.aload_n 0, 1) := by decide +kernel
theorem prd_X_reckon_152 : decode prb_X_reckon 152 = .ok (.getfield 53, 3) := by decide +kernel
theorem prd_X_reckon_155 : decode prb_X_reckon 155 = .ok (.iload_n 1, 1) := by decide +kernel
theorem prd_X_reckon_156 : decode prb_X_reckon 156 = .ok (.iconst 2, 1) := by decide +kernel
theorem prd_X_reckon_157 : decode prb_X_reckon 157 = .ok (.iadd, 1) := by decide +kernel
theorem prd_X_reckon_158 : decode prb_X_reckon 158 = .ok (.iaload, 1) := by decide +kernel
theorem prd_X_reckon_159 : decode prb_X_reckon 159 = .ok (.if_icmp .gt 8, 3) := by decide +kernel
theorem prd_X_reckon_177 : decode prb_X_reckon 177 = .ok (.aload_n 0, 1) := by decide +kernel
theorem prd_X_reckon_178 : decode prb_X_reckon 178 = .ok (.iload_n 1, 1) := by decide +kernel
theorem prd_X_reckon_179 : decode prb_X_reckon 179 = .ok (.iconst 1, 1) := by decide +kernel
theorem prd_X_reckon_180 : decode prb_X_reckon 180 = .ok (.iadd, 1) := by decide +kernel
theorem prd_X_reckon_181 : decode prb_X_reckon 181 = .ok (.invokevirtual 389, 3) := by decide +kernel
theorem prd_X_reckon_184 : decode prb_X_reckon 184 = .ok (.lstore_n 2, 1) := by decide +kernel
theorem prd_X_reckon_185 : decode prb_X_reckon 185 = .ok (.aload_n 0, 1) := by decide +kernel
theorem prd_X_reckon_186 : decode prb_X_reckon 186 = .ok (.iload_n 1, 1) := by decide +kernel
theorem prd_X_reckon_187 : decode prb_X_reckon 187 = .ok (.invokevirtual 350, 3) := by decide +kernel
theorem prd_X_reckon_190 : decode prb_X_reckon 190 = .ok (.istore 4, 2) := by decide +kernel
theorem prd_X_reckon_7 : decode prb_X_reckon 7 = .ok (.lconst 0, 1) := by decide +kernel
theorem prd_X_reckon_8 : decode prb_X_reckon 8 = .ok (.lreturn, 1) := by decide +kernel
theorem prd_X_reckon_192 : decode prb_X_reckon 192 = .ok (.iload 4, 2) := by decide +kernel
theorem prd_X_reckon_194 : decode prb_X_reckon 194 = .ok (.aload_n 0, 1) := by decide +kernel
theorem prd_X_reckon_195 : decode prb_X_reckon 195 = .ok (.iload_n 1, 1) := by decide +kernel
theorem prd_X_reckon_196 : decode prb_X_reckon 196 = .ok (.invokevirtual 307, 3) := by decide +kernel
theorem prd_X_reckon_199 : decode prb_X_reckon 199 = .ok (.if_icmp .ge 53, 3) := by decide +kernel
theorem prd_X_reckon_252 : decode prb_X_reckon 252 = .ok (.lload_n 2, 1) := by decide +kernel
theorem prd_X_reckon_253 : decode prb_X_reckon 253 = .ok (.lreturn, 1) := by decide +kernel
theorem prd_X_reckon_202 : decode prb_X_reckon 202 = .ok (.aload_n 0, 1) := by decide +kernel
theorem prd_X_reckon_203 : decode prb_X_reckon 203 = .ok (.getfield 377, 3) := by decide +kernel
theorem prd_X_reckon_206 : decode prb_X_reckon 206 = .ok (.ifCond .ne 46, 3) := by decide +kernel
theorem prd_X_reckon_209 : decode prb_X_reckon 209 = .ok (.aload_n 0, 1) := by decide +kernel
theorem prd_X_reckon_210 : decode prb_X_reckon 210 = .ok (.iload 4, 2) := by decide +kernel
theorem prd_X_reckon_212 : decode prb_X_reckon 212 = .ok (.iconst 1, 1) := by decide +kernel
theorem prd_X_reckon_213 : decode prb_X_reckon 213 = .ok (.iadd, 1) := by decide +kernel
theorem prd_X_reckon_214 : decode prb_X_reckon 214 = .ok (.invokevirtual 389, 3) := by decide +kernel
theorem prd_X_reckon_217 : decode prb_X_reckon 217 = .ok (.lstore 5, 2) := by decide +kernel
theorem prd_X_reckon_219 : decode prb_X_reckon 219 = .ok (.aload_n 0, 1) := by decide +kernel
theorem prd_X_reckon_220 : decode prb_X_reckon 220 = .ok (.getfield 377, 3) := by decide +kernel
theorem prd_X_reckon_223 : decode prb_X_reckon 223 = .ok (.ifCond .ne 18, 3) := by decide +kernel
theorem prd_X_reckon_241 : decode prb_X_reckon 241 = .ok (.aload_n 0, 1) := by decide +kernel
theorem prd_X_reckon_242 : decode prb_X_reckon 242 = .ok (.iload 4, 2) := by decide +kernel
theorem prd_X_reckon_244 : decode prb_X_reckon 244 = .ok (.invokevirtual 307, 3) := by decide +kernel
theorem prd_X_reckon_247 : decode prb_X_reckon 247 = .ok (.istore 4, 2) := by decide +kernel
theorem prd_X_reckon_249 : decode prb_X_reckon 249 = .ok (.goto (-57), 3) := by decide +kernel
theorem prd_X_reckon_226 : decode prb_X_reckon 226 = .ok (.aload_n 0, 1) := by decide +kernel
theorem prd_X_reckon_227 : decode prb_X_reckon 227 = .ok (.aload_n 0, 1) := by decide +kernel
theorem prd_X_reckon_228 : decode prb_X_reckon 228 = .ok (.getfield 47, 3) := by decide +kernel
theorem prd_X_reckon_231 : decode prb_X_reckon 231 = .ok (.iload 4, 2) := by decide +kernel
theorem prd_X_reckon_233 : decode prb_X_reckon 233 = .ok (.iaload, 1) := by decide +kernel
theorem prd_X_reckon_234 : decode prb_X_reckon 234 = .ok (.lload_n 2, 1) := by decide +kernel
theorem prd_X_reckon_235 : decode prb_X_reckon 235 = .ok (.lload 5, 2) := by decide +kernel
theorem prd_X_reckon_237 : decode prb_X_reckon 237 = .ok (.invokevirtual 403, 3) := by decide +kernel
theorem prd_X_reckon_240 : decode prb_X_reckon 240 = .ok (.lstore_n 2, 1) := by decide +kernel
theorem prd_X_holds_0 : decode prb_X_holds 0 = .ok (.aload_n 0, 1) := by decide +kernel
theorem prd_X_holds_1 : decode prb_X_holds 1 = .ok (.getfield 377, 3) := by decide +kernel
theorem prd_X_holds_4 : decode prb_X_holds 4 = .ok (.ifCond .le 5, 3) := by decide +kernel
theorem prd_X_holds_9 : decode prb_X_holds 9 = .ok (.aload_n 0, 1) := by decide +kernel
theorem prd_X_holds_10 : decode prb_X_holds 10 = .ok (.getfield 47, 3) := by decide +kernel
theorem prd_X_holds_13 : decode prb_X_holds 13 = .ok (.iload_n 1, 1) := by decide +kernel
theorem prd_X_holds_14 : decode prb_X_holds 14 = .ok (.iaload, 1) := by decide +kernel
theorem prd_X_holds_15 : decode prb_X_holds 15 = .ok (.bipush 26, 2) := by decide +kernel
theorem prd_X_holds_17 : decode prb_X_holds 17 = .ok (.if_icmp .ne 19, 3) := by decide +kernel
theorem prd_X_holds_36 : decode prb_X_holds 36 = .ok (.aload_n 0, 1) := by decide +kernel
theorem prd_X_holds_37 : decode prb_X_holds 37 = .ok (.getfield 47, 3) := by decide +kernel
theorem prd_X_holds_40 : decode prb_X_holds 40 = .ok (.iload_n 1, 1) := by decide +kernel
theorem prd_X_holds_41 : decode prb_X_holds 41 = .ok (.iaload, 1) := by decide +kernel
theorem prd_X_holds_42 : decode prb_X_holds 42 = .ok (.bipush 24, 2) := by decide +kernel
theorem prd_X_holds_44 : decode prb_X_holds 44 = .ok (.if_icmp .eq 14, 3) := by decide +kernel
theorem prd_X_holds_47 : decode prb_X_holds 47 = .ok (.aload_n 0, 1) := by decide +kernel
theorem prd_X_holds_48 : decode prb_X_holds 48 = .ok (.getfield 47, 3) := by decide +kernel
theorem prd_X_holds_51 : decode prb_X_holds 51 = .ok (.iload_n 1, 1) := by decide +kernel
theorem prd_X_holds_52 : decode prb_X_holds 52 = .ok (.iaload, 1) := by decide +kernel
theorem prd_X_holds_53 : decode prb_X_holds 53 = .ok (.bipush 25, 2) := by decide +kernel
theorem prd_X_holds_55 : decode prb_X_holds 55 = .ok (.if_icmp .ne 70, 3) := by decide +kernel
theorem prd_X_holds_125 : decode prb_X_holds 125 = .ok (.aload_n 0, 1) := by decide +kernel
theorem prd_X_holds_126 : decode prb_X_holds 126 = .ok (.iload_n 1, 1) := by decide +kernel
theorem prd_X_holds_127 : decode prb_X_holds 127 = .ok (.iconst 1, 1) := by decide +kernel
theorem prd_X_holds_128 : decode prb_X_holds 128 = .ok (.iadd, 1) := by decide +kernel
theorem prd_X_holds_129 : decode prb_X_holds 129 = .ok (.invokevirtual 389, 3) := by decide +kernel
theorem prd_X_holds_132 : decode prb_X_holds 132 = .ok (.lstore_n 2, 1) := by decide +kernel
theorem prd_X_holds_133 : decode prb_X_holds 133 = .ok (.aload_n 0, 1) := by decide +kernel
theorem prd_X_holds_134 : decode prb_X_holds 134 = .ok (.aload_n 0, 1) := by decide +kernel
theorem prd_X_holds_135 : decode prb_X_holds 135 = .ok (.iload_n 1, 1) := by decide +kernel
theorem prd_X_holds_136 : decode prb_X_holds 136 = .ok (.invokevirtual 350, 3) := by decide +kernel
theorem prd_X_holds_139 : decode prb_X_holds 139 = .ok (.invokevirtual 389, 3) := by decide +kernel
theorem prd_X_holds_142 : decode prb_X_holds 142 = .ok (.lstore 4, 2) := by decide +kernel
theorem prd_X_holds_144 : decode prb_X_holds 144 = .ok (.aload_n 0, 1) := by decide +kernel
theorem prd_X_holds_145 : decode prb_X_holds 145 = .ok (.getfield 47, 3) := by decide +kernel
theorem prd_X_holds_148 : decode prb_X_holds 148 = .ok (.iload_n 1, 1) := by decide +kernel
theorem prd_X_holds_149 : decode prb_X_holds 149 = .ok (.iaload, 1) := by decide +kernel
theorem prd_X_holds_150 : decode prb_X_holds 150 = .ok (.istore 6, 2) := by decide +kernel
theorem prd_X_holds_152 : decode prb_X_holds 152 = .ok (.iload 6, 2) := by decide +kernel
theorem prd_X_holds_154 : decode prb_X_holds 154 = .ok (.bipush 27, 2) := by decide +kernel
theorem prd_X_holds_156 : decode prb_X_holds 156 = .ok (.if_icmp .ne 18, 3) := by decide +kernel
theorem prd_X_holds_174 : decode prb_X_holds 174 = .ok (.iload 6, 2) := by decide +kernel
theorem prd_X_holds_176 : decode prb_X_holds 176 = .ok (.bipush 28, 2) := by decide +kernel
theorem prd_X_holds_178 : decode prb_X_holds 178 = .ok (.if_icmp .ne 18, 3) := by decide +kernel
theorem prd_X_holds_196 : decode prb_X_holds 196 = .ok (.iload 6, 2) := by decide +kernel
theorem prd_X_holds_198 : decode prb_X_holds 198 = .ok (.bipush 29, 2) := by decide +kernel
theorem prd_X_holds_200 : decode prb_X_holds 200 = .ok (.if_icmp .ne 18, 3) := by decide +kernel
theorem prd_X_holds_218 : decode prb_X_holds 218 = .ok (.iload 6, 2) := by decide +kernel
theorem prd_X_holds_220 : decode prb_X_holds 220 = .ok (.bipush 30, 2) := by decide +kernel
theorem prd_X_holds_222 : decode prb_X_holds 222 = .ok (.if_icmp .ne 18, 3) := by decide +kernel
theorem prd_X_holds_240 : decode prb_X_holds 240 = .ok (.iload 6, 2) := by decide +kernel
theorem prd_X_holds_242 : decode prb_X_holds 242 = .ok (.bipush 31, 2) := by decide +kernel
theorem prd_X_holds_244 : decode prb_X_holds 244 = .ok (.if_icmp .ne 18, 3) := by decide +kernel
theorem prd_X_holds_262 : decode prb_X_holds 262 = .ok (.lload_n 2, 1) := by decide +kernel
theorem prd_X_holds_263 : decode prb_X_holds 263 = .ok (.lload 4, 2) := by decide +kernel
theorem prd_X_holds_265 : decode prb_X_holds 265 = .ok (.lcmp, 1) := by decide +kernel
theorem prd_X_holds_266 : decode prb_X_holds 266 = .ok (.ifCond .eq 7, 3) := by decide +kernel
theorem prd_X_holds_273 : decode prb_X_holds 273 = .ok (.iconst 0, 1) := by decide +kernel
theorem prd_X_holds_274 : decode prb_X_holds 274 = .ok (.ireturn, 1) := by decide +kernel
theorem prd_X_holds_269 : decode prb_X_holds 269 = .ok (.iconst 1, 1) := by decide +kernel
theorem prd_X_holds_270 : decode prb_X_holds 270 = .ok (.goto 4, 3) := by decide +kernel
theorem prd_X_holds_247 : decode prb_X_holds 247 = .ok (.lload_n 2, 1) := by decide +kernel
theorem prd_X_holds_248 : decode prb_X_holds 248 = .ok (.lload 4, 2) := by decide +kernel
theorem prd_X_holds_250 : decode prb_X_holds 250 = .ok (.lcmp, 1) := by decide +kernel
theorem prd_X_holds_251 : decode prb_X_holds 251 = .ok (.ifCond .ne 7, 3) := by decide +kernel
theorem prd_X_holds_258 : decode prb_X_holds 258 = .ok (.iconst 0, 1) := by decide +kernel
theorem prd_X_holds_259 : decode prb_X_holds 259 = .ok (.goto 15, 3) := by decide +kernel
theorem prd_X_holds_254 : decode prb_X_holds 254 = .ok (.iconst 1, 1) := by decide +kernel
theorem prd_X_holds_255 : decode prb_X_holds 255 = .ok (.goto 19, 3) := by decide +kernel
theorem prd_X_holds_225 : decode prb_X_holds 225 = .ok (.lload_n 2, 1) := by decide +kernel
theorem prd_X_holds_226 : decode prb_X_holds 226 = .ok (.lload 4, 2) := by decide +kernel
theorem prd_X_holds_228 : decode prb_X_holds 228 = .ok (.lcmp, 1) := by decide +kernel
theorem prd_X_holds_229 : decode prb_X_holds 229 = .ok (.ifCond .lt 7, 3) := by decide +kernel
theorem prd_X_holds_236 : decode prb_X_holds 236 = .ok (.iconst 0, 1) := by decide +kernel
theorem prd_X_holds_237 : decode prb_X_holds 237 = .ok (.goto 37, 3) := by decide +kernel
theorem prd_X_holds_232 : decode prb_X_holds 232 = .ok (.iconst 1, 1) := by decide +kernel
theorem prd_X_holds_233 : decode prb_X_holds 233 = .ok (.goto 41, 3) := by decide +kernel
theorem prd_X_holds_203 : decode prb_X_holds 203 = .ok (.lload_n 2, 1) := by decide +kernel
theorem prd_X_holds_204 : decode prb_X_holds 204 = .ok (.lload 4, 2) := by decide +kernel
theorem prd_X_holds_206 : decode prb_X_holds 206 = .ok (.lcmp, 1) := by decide +kernel
theorem prd_X_holds_207 : decode prb_X_holds 207 = .ok (.ifCond .le 7, 3) := by decide +kernel
theorem prd_X_holds_214 : decode prb_X_holds 214 = .ok (.iconst 0, 1) := by decide +kernel
theorem prd_X_holds_215 : decode prb_X_holds 215 = .ok (.goto 59, 3) := by decide +kernel
theorem prd_X_holds_210 : decode prb_X_holds 210 = .ok (.iconst 1, 1) := by decide +kernel
theorem prd_X_holds_211 : decode prb_X_holds 211 = .ok (.goto 63, 3) := by decide +kernel
theorem prd_X_holds_181 : decode prb_X_holds 181 = .ok (.lload_n 2, 1) := by decide +kernel
theorem prd_X_holds_182 : decode prb_X_holds 182 = .ok (.lload 4, 2) := by decide +kernel
theorem prd_X_holds_184 : decode prb_X_holds 184 = .ok (.lcmp, 1) := by decide +kernel
theorem prd_X_holds_185 : decode prb_X_holds 185 = .ok (.ifCond .gt 7, 3) := by decide +kernel
theorem prd_X_holds_192 : decode prb_X_holds 192 = .ok (.iconst 0, 1) := by decide +kernel
theorem prd_X_holds_193 : decode prb_X_holds 193 = .ok (.goto 81, 3) := by decide +kernel
theorem prd_X_holds_188 : decode prb_X_holds 188 = .ok (.iconst 1, 1) := by decide +kernel
theorem prd_X_holds_189 : decode prb_X_holds 189 = .ok (.goto 85, 3) := by decide +kernel
theorem prd_X_holds_159 : decode prb_X_holds 159 = .ok (.lload_n 2, 1) := by decide +kernel
theorem prd_X_holds_160 : decode prb_X_holds 160 = .ok (.lload 4, 2) := by decide +kernel
theorem prd_X_holds_162 : decode prb_X_holds 162 = .ok (.lcmp, 1) := by decide +kernel
theorem prd_X_holds_163 : decode prb_X_holds 163 = .ok (.ifCond .ge 7, 3) := by decide +kernel
theorem prd_X_holds_170 : decode prb_X_holds 170 = .ok (.iconst 0, 1) := by decide +kernel
theorem prd_X_holds_171 : decode prb_X_holds 171 = .ok (.goto 103, 3) := by decide +kernel
theorem prd_X_holds_166 : decode prb_X_holds 166 = .ok (.iconst 1, 1) := by decide +kernel
theorem prd_X_holds_167 : decode prb_X_holds 167 = .ok (.goto 107, 3) := by decide +kernel
theorem prd_X_holds_20 : decode prb_X_holds 20 = .ok (.aload_n 0, 1) := by decide +kernel
theorem prd_X_holds_21 : decode prb_X_holds 21 = .ok (.iload_n 1, 1) := by decide +kernel
theorem prd_X_holds_22 : decode prb_X_holds 22 = .ok (.iconst 1, 1) := by decide +kernel
theorem prd_X_holds_23 : decode prb_X_holds 23 = .ok (.iadd, 1) := by decide +kernel
theorem prd_X_holds_24 : decode prb_X_holds 24 = .ok (.invokevirtual 407, 3) := by decide +kernel
theorem prd_X_holds_27 : decode prb_X_holds 27 = .ok (.ifCond .ne 7, 3) := by decide +kernel
theorem prd_X_holds_34 : decode prb_X_holds 34 = .ok (.iconst 0, 1) := by decide +kernel
theorem prd_X_holds_35 : decode prb_X_holds 35 = .ok (.ireturn, 1) := by decide +kernel
theorem prd_X_holds_30 : decode prb_X_holds 30 = .ok (.iconst 1, 1) := by decide +kernel
theorem prd_X_holds_31 : decode prb_X_holds 31 = .ok (.goto 4, 3) := by decide +kernel
theorem prd_X_holds_7 : decode prb_X_holds 7 = .ok (.iconst 0, 1) := by decide +kernel
theorem prd_X_holds_8 : decode prb_X_holds 8 = .ok (.ireturn, 1) := by decide +kernel
theorem prd_X_holds_58 : decode prb_X_holds 58 = .ok (.aload_n 0, 1) := by decide +kernel
theorem prd_X_holds_59 : decode prb_X_holds 59 = .ok (.getfield 47, 3) := by decide +kernel
theorem prd_X_holds_62 : decode prb_X_holds 62 = .ok (.iload_n 1, 1) := by decide +kernel
theorem prd_X_holds_63 : decode prb_X_holds 63 = .ok (.iaload, 1) := by decide +kernel
theorem prd_X_holds_64 : decode prb_X_holds 64 = .ok (.bipush 25, 2) := by decide +kernel
theorem prd_X_holds_66 : decode prb_X_holds 66 = .ok (.if_icmp .ne 7, 3) := by decide +kernel
theorem prd_X_holds_73 : decode prb_X_holds 73 = .ok (.iconst 0, 1) := by decide +kernel
theorem prd_X_holds_74 : decode prb_X_holds 74 = .ok (.istore_n 2, 1) := by decide +kernel
theorem prd_X_holds_75 : decode prb_X_holds 75 = .ok (.iload_n 1, 1) := by decide +kernel
theorem prd_X_holds_76 : decode prb_X_holds 76 = .ok (.iconst 1, 1) := by decide +kernel
theorem prd_X_holds_77 : decode prb_X_holds 77 = .ok (.iadd, 1) := by decide +kernel
theorem prd_X_holds_78 : decode prb_X_holds 78 = .ok (.istore_n 3, 1) := by decide +kernel
theorem prd_X_holds_69 : decode prb_X_holds 69 = .ok (.iconst 1, 1) := by decide +kernel
theorem prd_X_holds_70 : decode prb_X_holds 70 = .ok (.goto 4, 3) := by decide +kernel
theorem prd_X_holds_79 : decode prb_X_holds 79 = .ok (.iload_n 3, 1) := by decide +kernel
theorem prd_X_holds_80 : decode prb_X_holds 80 = .ok (.aload_n 0, 1) := by decide +kernel
theorem prd_X_holds_81 : decode prb_X_holds 81 = .ok (.iload_n 1, 1) := by decide +kernel
theorem prd_X_holds_82 : decode prb_X_holds 82 = .ok (.invokevirtual 307, 3) := by decide +kernel
theorem prd_X_holds_85 : decode prb_X_holds 85 = .ok (.if_icmp .ge 38, 3) := by decide +kernel
theorem prd_X_holds_123 : decode prb_X_holds 123 = .ok (.iload_n 2, 1) := by decide +kernel
theorem prd_X_holds_124 : decode prb_X_holds 124 = .ok (.ireturn, 1) := by decide +kernel
theorem prd_X_holds_88 : decode prb_X_holds 88 = .ok (.aload_n 0, 1) := by decide +kernel
theorem prd_X_holds_89 : decode prb_X_holds 89 = .ok (.getfield 377, 3) := by decide +kernel
theorem prd_X_holds_92 : decode prb_X_holds 92 = .ok (.ifCond .ne 31, 3) := by decide +kernel
theorem prd_X_holds_95 : decode prb_X_holds 95 = .ok (.aload_n 0, 1) := by decide +kernel
theorem prd_X_holds_96 : decode prb_X_holds 96 = .ok (.iload_n 3, 1) := by decide +kernel
theorem prd_X_holds_97 : decode prb_X_holds 97 = .ok (.invokevirtual 407, 3) := by decide +kernel
theorem prd_X_holds_100 : decode prb_X_holds 100 = .ok (.iload_n 2, 1) := by decide +kernel
theorem prd_X_holds_101 : decode prb_X_holds 101 = .ok (.if_icmp .eq 13, 3) := by decide +kernel
theorem prd_X_holds_114 : decode prb_X_holds 114 = .ok (.aload_n 0, 1) := by decide +kernel
theorem prd_X_holds_115 : decode prb_X_holds 115 = .ok (.iload_n 3, 1) := by decide +kernel
theorem prd_X_holds_116 : decode prb_X_holds 116 = .ok (.invokevirtual 307, 3) := by decide +kernel
theorem prd_X_holds_119 : decode prb_X_holds 119 = .ok (.istore_n 3, 1) := by decide +kernel
theorem prd_X_holds_120 : decode prb_X_holds 120 = .ok (.goto (-41), 3) := by decide +kernel
theorem prd_X_holds_104 : decode prb_X_holds 104 = .ok (.iload_n 2, 1) := by decide +kernel
theorem prd_X_holds_105 : decode prb_X_holds 105 = .ok (.ifCond .ne 7, 3) := by decide +kernel
theorem prd_X_holds_112 : decode prb_X_holds 112 = .ok (.iconst 0, 1) := by decide +kernel
theorem prd_X_holds_113 : decode prb_X_holds 113 = .ok (.ireturn, 1) := by decide +kernel
theorem prd_X_holds_108 : decode prb_X_holds 108 = .ok (.iconst 1, 1) := by decide +kernel
theorem prd_X_holds_109 : decode prb_X_holds 109 = .ok (.goto 4, 3) := by decide +kernel
theorem prd_X_goal_0 : decode prb_X_goal 0 = .ok (.aload_n 0, 1) := by decide +kernel
theorem prd_X_goal_1 : decode prb_X_goal 1 = .ok (.getfield 71, 3) := by decide +kernel
theorem prd_X_goal_4 : decode prb_X_goal 4 = .ok (.iload_n 1, 1) := by decide +kernel
theorem prd_X_goal_5 : decode prb_X_goal 5 = .ok (.iaload, 1) := by decide +kernel
theorem prd_X_goal_6 : decode prb_X_goal 6 = .ok (.istore_n 2, 1) := by decide +kernel
theorem prd_X_goal_7 : decode prb_X_goal 7 = .ok (.aload_n 0, 1) := by decide +kernel
theorem prd_X_goal_8 : decode prb_X_goal 8 = .ok (.getfield 68, 3) := by decide +kernel
theorem prd_X_goal_11 : decode prb_X_goal 11 = .ok (.iload_n 2, 1) := by decide +kernel
theorem prd_X_goal_12 : decode prb_X_goal 12 = .ok (.iaload, 1) := by decide +kernel
theorem prd_X_goal_13 : decode prb_X_goal 13 = .ok (.istore_n 3, 1) := by decide +kernel
theorem prd_X_goal_14 : decode prb_X_goal 14 = .ok (.aload_n 0, 1) := by decide +kernel
theorem prd_X_goal_15 : decode prb_X_goal 15 = .ok (.getfield 47, 3) := by decide +kernel
theorem prd_X_goal_18 : decode prb_X_goal 18 = .ok (.iload_n 3, 1) := by decide +kernel
theorem prd_X_goal_19 : decode prb_X_goal 19 = .ok (.iconst 1, 1) := by decide +kernel
theorem prd_X_goal_20 : decode prb_X_goal 20 = .ok (.iadd, 1) := by decide +kernel
theorem prd_X_goal_21 : decode prb_X_goal 21 = .ok (.iaload, 1) := by decide +kernel
theorem prd_X_goal_22 : decode prb_X_goal 22 = .ok (.bipush 33, 2) := by decide +kernel
theorem prd_X_goal_24 : decode prb_X_goal 24 = .ok (.if_icmp .ne 5, 3) := by decide +kernel
theorem prd_X_goal_29 : decode prb_X_goal 29 = .ok (.aload_n 0, 1) := by decide +kernel
theorem prd_X_goal_30 : decode prb_X_goal 30 = .ok (.getfield 83, 3) := by decide +kernel
theorem prd_X_goal_33 : decode prb_X_goal 33 = .ok (.iload_n 2, 1) := by decide +kernel
theorem prd_X_goal_34 : decode prb_X_goal 34 = .ok (.iaload, 1) := by decide +kernel
theorem prd_X_goal_35 : decode prb_X_goal 35 = .ok (.iconst 1, 1) := by decide +kernel
theorem prd_X_goal_36 : decode prb_X_goal 36 = .ok (.isub, 1) := by decide +kernel
theorem prd_X_goal_37 : decode prb_X_goal 37 = .ok (.istore 4, 2) := by decide +kernel
theorem prd_X_goal_27 : decode prb_X_goal 27 = .ok (.iconst (-1), 1) := by decide +kernel
theorem prd_X_goal_28 : decode prb_X_goal 28 = .ok (.ireturn, 1) := by decide +kernel
theorem prd_X_goal_39 : decode prb_X_goal 39 = .ok (.iload 4, 2) := by decide +kernel
theorem prd_X_goal_41 : decode prb_X_goal 41 = .ok (.ifCond .lt 45, 3) := by decide +kernel
theorem prd_X_goal_86 : decode prb_X_goal 86 = .ok (.iconst (-1), 1) := by decide +kernel
theorem prd_X_goal_87 : decode prb_X_goal 87 = .ok (.ireturn, 1) := by decide +kernel
theorem prd_X_goal_44 : decode prb_X_goal 44 = .ok (.aload_n 0, 1) := by decide +kernel
theorem prd_X_goal_45 : decode prb_X_goal 45 = .ok (.getfield 86, 3) := by decide +kernel
theorem prd_X_goal_48 : decode prb_X_goal 48 = .ok (.bipush 40, 2) := by decide +kernel
theorem prd_X_goal_50 : decode prb_X_goal 50 = .ok (.iload_n 2, 1) := by decide +kernel
theorem prd_X_goal_51 : decode prb_X_goal 51 = .ok (.imul, 1) := by decide +kernel
theorem prd_X_goal_52 : decode prb_X_goal 52 = .ok (.iload 4, 2) := by decide +kernel
theorem prd_X_goal_54 : decode prb_X_goal 54 = .ok (.iadd, 1) := by decide +kernel
theorem prd_X_goal_55 : decode prb_X_goal 55 = .ok (.iaload, 1) := by decide +kernel
theorem prd_X_goal_56 : decode prb_X_goal 56 = .ok (.aload_n 0, 1) := by decide +kernel
theorem prd_X_goal_57 : decode prb_X_goal 57 = .ok (.getfield 53, 3) := by decide +kernel
theorem prd_X_goal_60 : decode prb_X_goal 60 = .ok (.iload_n 3, 1) := by decide +kernel
theorem prd_X_goal_61 : decode prb_X_goal 61 = .ok (.iconst 1, 1) := by decide +kernel
theorem prd_X_goal_62 : decode prb_X_goal 62 = .ok (.iadd, 1) := by decide +kernel
theorem prd_X_goal_63 : decode prb_X_goal 63 = .ok (.iaload, 1) := by decide +kernel
theorem prd_X_goal_64 : decode prb_X_goal 64 = .ok (.if_icmp .ne 16, 3) := by decide +kernel
theorem prd_X_goal_80 : decode prb_X_goal 80 = .ok (.iinc 4 (-1), 3) := by decide +kernel
theorem prd_X_goal_83 : decode prb_X_goal 83 = .ok (.goto (-44), 3) := by decide +kernel
theorem prd_X_goal_67 : decode prb_X_goal 67 = .ok (.aload_n 0, 1) := by decide +kernel
theorem prd_X_goal_68 : decode prb_X_goal 68 = .ok (.getfield 89, 3) := by decide +kernel
theorem prd_X_goal_71 : decode prb_X_goal 71 = .ok (.bipush 40, 2) := by decide +kernel
theorem prd_X_goal_73 : decode prb_X_goal 73 = .ok (.iload_n 2, 1) := by decide +kernel
theorem prd_X_goal_74 : decode prb_X_goal 74 = .ok (.imul, 1) := by decide +kernel
theorem prd_X_goal_75 : decode prb_X_goal 75 = .ok (.iload 4, 2) := by decide +kernel
theorem prd_X_goal_77 : decode prb_X_goal 77 = .ok (.iadd, 1) := by decide +kernel
theorem prd_X_goal_78 : decode prb_X_goal 78 = .ok (.iaload, 1) := by decide +kernel
theorem prd_X_goal_79 : decode prb_X_goal 79 = .ok (.ireturn, 1) := by decide +kernel
theorem prd_X_otherBlock_0 : decode prb_X_otherBlock 0 = .ok (.aload_n 0, 1) := by decide +kernel
theorem prd_X_otherBlock_1 : decode prb_X_otherBlock 1 = .ok (.aload_n 0, 1) := by decide +kernel
theorem prd_X_otherBlock_2 : decode prb_X_otherBlock 2 = .ok (.aload_n 0, 1) := by decide +kernel
theorem prd_X_otherBlock_3 : decode prb_X_otherBlock 3 = .ok (.getfield 68, 3) := by decide +kernel
theorem prd_X_otherBlock_6 : decode prb_X_otherBlock 6 = .ok (.iload_n 1, 1) := by decide +kernel
theorem prd_X_otherBlock_7 : decode prb_X_otherBlock 7 = .ok (.iaload, 1) := by decide +kernel
theorem prd_X_otherBlock_8 : decode prb_X_otherBlock 8 = .ok (.invokevirtual 350, 3) := by decide +kernel
theorem prd_X_otherBlock_11 : decode prb_X_otherBlock 11 = .ok (.invokevirtual 307, 3) := by decide +kernel
theorem prd_X_otherBlock_14 : decode prb_X_otherBlock 14 = .ok (.istore_n 2, 1) := by decide +kernel
theorem prd_X_otherBlock_15 : decode prb_X_otherBlock 15 = .ok (.iload_n 1, 1) := by decide +kernel
theorem prd_X_otherBlock_16 : decode prb_X_otherBlock 16 = .ok (.iconst 1, 1) := by decide +kernel
theorem prd_X_otherBlock_17 : decode prb_X_otherBlock 17 = .ok (.iadd, 1) := by decide +kernel
theorem prd_X_otherBlock_18 : decode prb_X_otherBlock 18 = .ok (.istore_n 3, 1) := by decide +kernel
theorem prd_X_otherBlock_19 : decode prb_X_otherBlock 19 = .ok (.aload_n 0, 1) := by decide +kernel
theorem prd_X_otherBlock_20 : decode prb_X_otherBlock 20 = .ok (.getfield 71, 3) := by decide +kernel
theorem prd_X_otherBlock_23 : decode prb_X_otherBlock 23 = .ok (.iload_n 3, 1) := by decide +kernel
theorem prd_X_otherBlock_24 : decode prb_X_otherBlock 24 = .ok (.iaload, 1) := by decide +kernel
theorem prd_X_otherBlock_25 : decode prb_X_otherBlock 25 = .ok (.iload_n 1, 1) := by decide +kernel
theorem prd_X_otherBlock_26 : decode prb_X_otherBlock 26 = .ok (.if_icmp .ne 18, 3) := by decide +kernel
theorem prd_X_otherBlock_44 : decode prb_X_otherBlock 44 = .ok (.iinc 3 1, 3) := by decide +kernel
theorem prd_X_otherBlock_47 : decode prb_X_otherBlock 47 = .ok (.goto (-28), 3) := by decide +kernel
theorem prd_X_otherBlock_29 : decode prb_X_otherBlock 29 = .ok (.aload_n 0, 1) := by decide +kernel
theorem prd_X_otherBlock_30 : decode prb_X_otherBlock 30 = .ok (.getfield 56, 3) := by decide +kernel
theorem prd_X_otherBlock_33 : decode prb_X_otherBlock 33 = .ok (.aload_n 0, 1) := by decide +kernel
theorem prd_X_otherBlock_34 : decode prb_X_otherBlock 34 = .ok (.getfield 68, 3) := by decide +kernel
theorem prd_X_otherBlock_37 : decode prb_X_otherBlock 37 = .ok (.iload_n 3, 1) := by decide +kernel
theorem prd_X_otherBlock_38 : decode prb_X_otherBlock 38 = .ok (.iaload, 1) := by decide +kernel
theorem prd_X_otherBlock_39 : decode prb_X_otherBlock 39 = .ok (.iaload, 1) := by decide +kernel
theorem prd_X_otherBlock_40 : decode prb_X_otherBlock 40 = .ok (.iload_n 2, 1) := by decide +kernel
theorem prd_X_otherBlock_41 : decode prb_X_otherBlock 41 = .ok (.if_icmp .eq 9, 3) := by decide +kernel
theorem prd_X_otherBlock_50 : decode prb_X_otherBlock 50 = .ok (.iload_n 3, 1) := by decide +kernel
theorem prd_X_otherBlock_51 : decode prb_X_otherBlock 51 = .ok (.ireturn, 1) := by decide +kernel
theorem prd_X_step_0 : decode prb_X_step 0 = .ok (.aload_n 0, 1) := by decide +kernel
theorem prd_X_step_1 : decode prb_X_step 1 = .ok (.getfield 151, 3) := by decide +kernel
theorem prd_X_step_4 : decode prb_X_step 4 = .ok (.istore_n 1, 1) := by decide +kernel
theorem prd_X_step_5 : decode prb_X_step 5 = .ok (.aload_n 0, 1) := by decide +kernel
theorem prd_X_step_6 : decode prb_X_step 6 = .ok (.getfield 68, 3) := by decide +kernel
theorem prd_X_step_9 : decode prb_X_step 9 = .ok (.iload_n 1, 1) := by decide +kernel
theorem prd_X_step_10 : decode prb_X_step 10 = .ok (.iaload, 1) := by decide +kernel
theorem prd_X_step_11 : decode prb_X_step 11 = .ok (.istore_n 2, 1) := by decide +kernel
theorem prd_X_step_12 : decode prb_X_step 12 = .ok (.aload_n 0, 1) := by decide +kernel
theorem prd_X_step_13 : decode prb_X_step 13 = .ok (.getfield 47, 3) := by decide +kernel
theorem prd_X_step_16 : decode prb_X_step 16 = .ok (.iload_n 2, 1) := by decide +kernel
theorem prd_X_step_17 : decode prb_X_step 17 = .ok (.iaload, 1) := by decide +kernel
theorem prd_X_step_18 : decode prb_X_step 18 = .ok (.tableswitch 528 3 10 #[46, 96, 136, 183, 233, 354, 450, 505], 46) := by decide +kernel
theorem prd_X_step_64 : decode prb_X_step 64 = .ok (.aload_n 0, 1) := by decide +kernel
theorem prd_X_step_65 : decode prb_X_step 65 = .ok (.getfield 59, 3) := by decide +kernel
theorem prd_X_step_68 : decode prb_X_step 68 = .ok (.iload_n 2, 1) := by decide +kernel
theorem prd_X_step_69 : decode prb_X_step 69 = .ok (.iaload, 1) := by decide +kernel
theorem prd_X_step_70 : decode prb_X_step 70 = .ok (.iconst 2, 1) := by decide +kernel
theorem prd_X_step_71 : decode prb_X_step 71 = .ok (.if_icmp .ne 7, 3) := by decide +kernel
theorem prd_X_step_78 : decode prb_X_step 78 = .ok (.aload_n 0, 1) := by decide +kernel
theorem prd_X_step_79 : decode prb_X_step 79 = .ok (.aload_n 0, 1) := by decide +kernel
theorem prd_X_step_80 : decode prb_X_step 80 = .ok (.iload_n 2, 1) := by decide +kernel
theorem prd_X_step_81 : decode prb_X_step 81 = .ok (.invokevirtual 350, 3) := by decide +kernel
theorem prd_X_step_84 : decode prb_X_step 84 = .ok (.invokevirtual 389, 3) := by decide +kernel
theorem prd_X_step_87 : decode prb_X_step 87 = .ok (.lstore_n 3, 1) := by decide +kernel
theorem prd_X_step_88 : decode prb_X_step 88 = .ok (.aload_n 0, 1) := by decide +kernel
theorem prd_X_step_89 : decode prb_X_step 89 = .ok (.getfield 377, 3) := by decide +kernel
theorem prd_X_step_92 : decode prb_X_step 92 = .ok (.ifCond .ne 16, 3) := by decide +kernel
theorem prd_X_step_108 : decode prb_X_step 108 = .ok (.aload_n 0, 1) := by decide +kernel
theorem prd_X_step_109 : decode prb_X_step 109 = .ok (.iload_n 1, 1) := by decide +kernel
theorem prd_X_step_110 : decode prb_X_step 110 = .ok (.invokevirtual 371, 3) := by decide +kernel
theorem prd_X_step_113 : decode prb_X_step 113 = .ok (.ireturn, 1) := by decide +kernel
theorem prd_X_step_95 : decode prb_X_step 95 = .ok (.aload_n 0, 1) := by decide +kernel
theorem prd_X_step_96 : decode prb_X_step 96 = .ok (.getfield 113, 3) := by decide +kernel
theorem prd_X_step_99 : decode prb_X_step 99 = .ok (.aload_n 0, 1) := by decide +kernel
theorem prd_X_step_100 : decode prb_X_step 100 = .ok (.getfield 77, 3) := by decide +kernel
theorem prd_X_step_103 : decode prb_X_step 103 = .ok (.iload_n 1, 1) := by decide +kernel
theorem prd_X_step_104 : decode prb_X_step 104 = .ok (.iaload, 1) := by decide +kernel
theorem prd_X_step_105 : decode prb_X_step 105 = .ok (.lload_n 3, 1) := by decide +kernel
theorem prd_X_step_106 : decode prb_X_step 106 = .ok (.l2i, 1) := by decide +kernel
theorem prd_X_step_107 : decode prb_X_step 107 = .ok (.iastore, 1) := by decide +kernel
theorem prd_X_step_74 : decode prb_X_step 74 = .ok (.lconst 0, 1) := by decide +kernel
theorem prd_X_step_75 : decode prb_X_step 75 = .ok (.goto 12, 3) := by decide +kernel
theorem prd_X_step_114 : decode prb_X_step 114 = .ok (.iconst 0, 1) := by decide +kernel
theorem prd_X_step_115 : decode prb_X_step 115 = .ok (.istore 5, 2) := by decide +kernel
theorem prd_X_step_154 : decode prb_X_step 154 = .ok (.aload_n 0, 1) := by decide +kernel
theorem prd_X_step_155 : decode prb_X_step 155 = .ok (.aload_n 0, 1) := by decide +kernel
theorem prd_X_step_156 : decode prb_X_step 156 = .ok (.iload_n 2, 1) := by decide +kernel
theorem prd_X_step_157 : decode prb_X_step 157 = .ok (.invokevirtual 350, 3) := by decide +kernel
theorem prd_X_step_160 : decode prb_X_step 160 = .ok (.invokevirtual 389, 3) := by decide +kernel
theorem prd_X_step_163 : decode prb_X_step 163 = .ok (.lstore_n 3, 1) := by decide +kernel
theorem prd_X_step_164 : decode prb_X_step 164 = .ok (.aload_n 0, 1) := by decide +kernel
theorem prd_X_step_165 : decode prb_X_step 165 = .ok (.getfield 377, 3) := by decide +kernel
theorem prd_X_step_168 : decode prb_X_step 168 = .ok (.ifCond .ne 27, 3) := by decide +kernel
theorem prd_X_step_195 : decode prb_X_step 195 = .ok (.aload_n 0, 1) := by decide +kernel
theorem prd_X_step_196 : decode prb_X_step 196 = .ok (.iload_n 1, 1) := by decide +kernel
theorem prd_X_step_197 : decode prb_X_step 197 = .ok (.invokevirtual 371, 3) := by decide +kernel
theorem prd_X_step_200 : decode prb_X_step 200 = .ok (.ireturn, 1) := by decide +kernel
theorem prd_X_step_171 : decode prb_X_step 171 = .ok (.aload_n 0, 1) := by decide +kernel
theorem prd_X_step_172 : decode prb_X_step 172 = .ok (.getfield 113, 3) := by decide +kernel
theorem prd_X_step_175 : decode prb_X_step 175 = .ok (.aload_n 0, 1) := by decide +kernel
theorem prd_X_step_176 : decode prb_X_step 176 = .ok (.getfield 89, 3) := by decide +kernel
theorem prd_X_step_179 : decode prb_X_step 179 = .ok (.aload_n 0, 1) := by decide +kernel
theorem prd_X_step_180 : decode prb_X_step 180 = .ok (.aload_n 0, 1) := by decide +kernel
theorem prd_X_step_181 : decode prb_X_step 181 = .ok (.getfield 53, 3) := by decide +kernel
theorem prd_X_step_184 : decode prb_X_step 184 = .ok (.iload_n 2, 1) := by decide +kernel
theorem prd_X_step_185 : decode prb_X_step 185 = .ok (.iconst 1, 1) := by decide +kernel
theorem prd_X_step_186 : decode prb_X_step 186 = .ok (.iadd, 1) := by decide +kernel
theorem prd_X_step_187 : decode prb_X_step 187 = .ok (.iaload, 1) := by decide +kernel
theorem prd_X_step_188 : decode prb_X_step 188 = .ok (.invokevirtual 392, 3) := by decide +kernel
theorem prd_X_step_191 : decode prb_X_step 191 = .ok (.iaload, 1) := by decide +kernel
theorem prd_X_step_192 : decode prb_X_step 192 = .ok (.lload_n 3, 1) := by decide +kernel
theorem prd_X_step_193 : decode prb_X_step 193 = .ok (.l2i, 1) := by decide +kernel
theorem prd_X_step_194 : decode prb_X_step 194 = .ok (.iastore, 1) := by decide +kernel
theorem prd_X_step_201 : decode prb_X_step 201 = .ok (.aload_n 0, 1) := by decide +kernel
theorem prd_X_step_202 : decode prb_X_step 202 = .ok (.iload_n 2, 1) := by decide +kernel
theorem prd_X_step_203 : decode prb_X_step 203 = .ok (.iconst 1, 1) := by decide +kernel
theorem prd_X_step_204 : decode prb_X_step 204 = .ok (.iadd, 1) := by decide +kernel
theorem prd_X_step_205 : decode prb_X_step 205 = .ok (.aload_n 0, 1) := by decide +kernel
theorem prd_X_step_206 : decode prb_X_step 206 = .ok (.iload_n 2, 1) := by decide +kernel
theorem prd_X_step_207 : decode prb_X_step 207 = .ok (.invokevirtual 350, 3) := by decide +kernel
theorem prd_X_step_210 : decode prb_X_step 210 = .ok (.invokevirtual 395, 3) := by decide +kernel
theorem prd_X_step_213 : decode prb_X_step 213 = .ok (.istore 5, 2) := by decide +kernel
theorem prd_X_step_215 : decode prb_X_step 215 = .ok (.aload_n 0, 1) := by decide +kernel
theorem prd_X_step_216 : decode prb_X_step 216 = .ok (.aload_n 0, 1) := by decide +kernel
theorem prd_X_step_217 : decode prb_X_step 217 = .ok (.aload_n 0, 1) := by decide +kernel
theorem prd_X_step_218 : decode prb_X_step 218 = .ok (.iload_n 2, 1) := by decide +kernel
theorem prd_X_step_219 : decode prb_X_step 219 = .ok (.invokevirtual 350, 3) := by decide +kernel
theorem prd_X_step_222 : decode prb_X_step 222 = .ok (.invokevirtual 307, 3) := by decide +kernel
theorem prd_X_step_225 : decode prb_X_step 225 = .ok (.invokevirtual 389, 3) := by decide +kernel
theorem prd_X_step_228 : decode prb_X_step 228 = .ok (.lstore_n 3, 1) := by decide +kernel
theorem prd_X_step_229 : decode prb_X_step 229 = .ok (.aload_n 0, 1) := by decide +kernel
theorem prd_X_step_230 : decode prb_X_step 230 = .ok (.getfield 377, 3) := by decide +kernel
theorem prd_X_step_233 : decode prb_X_step 233 = .ok (.ifCond .ne 12, 3) := by decide +kernel
theorem prd_X_step_245 : decode prb_X_step 245 = .ok (.aload_n 0, 1) := by decide +kernel
theorem prd_X_step_246 : decode prb_X_step 246 = .ok (.iload_n 1, 1) := by decide +kernel
theorem prd_X_step_247 : decode prb_X_step 247 = .ok (.invokevirtual 371, 3) := by decide +kernel
theorem prd_X_step_250 : decode prb_X_step 250 = .ok (.ireturn, 1) := by decide +kernel
theorem prd_X_step_236 : decode prb_X_step 236 = .ok (.aload_n 0, 1) := by decide +kernel
theorem prd_X_step_237 : decode prb_X_step 237 = .ok (.getfield 116, 3) := by decide +kernel
theorem prd_X_step_240 : decode prb_X_step 240 = .ok (.iload 5, 2) := by decide +kernel
theorem prd_X_step_242 : decode prb_X_step 242 = .ok (.lload_n 3, 1) := by decide +kernel
theorem prd_X_step_243 : decode prb_X_step 243 = .ok (.l2i, 1) := by decide +kernel
theorem prd_X_step_244 : decode prb_X_step 244 = .ok (.iastore, 1) := by decide +kernel
theorem prd_X_step_251 : decode prb_X_step 251 = .ok (.iconst 0, 1) := by decide +kernel
theorem prd_X_step_252 : decode prb_X_step 252 = .ok (.istore 6, 2) := by decide +kernel
theorem prd_X_step_254 : decode prb_X_step 254 = .ok (.iload_n 2, 1) := by decide +kernel
theorem prd_X_step_255 : decode prb_X_step 255 = .ok (.iconst 3, 1) := by decide +kernel
theorem prd_X_step_256 : decode prb_X_step 256 = .ok (.iadd, 1) := by decide +kernel
theorem prd_X_step_257 : decode prb_X_step 257 = .ok (.istore 7, 2) := by decide +kernel
theorem prd_X_step_372 : decode prb_X_step 372 = .ok (.aload_n 0, 1) := by decide +kernel
theorem prd_X_step_373 : decode prb_X_step 373 = .ok (.iload_n 2, 1) := by decide +kernel
theorem prd_X_step_374 : decode prb_X_step 374 = .ok (.iconst 1, 1) := by decide +kernel
theorem prd_X_step_375 : decode prb_X_step 375 = .ok (.iadd, 1) := by decide +kernel
theorem prd_X_step_376 : decode prb_X_step 376 = .ok (.invokevirtual 407, 3) := by decide +kernel
theorem prd_X_step_379 : decode prb_X_step 379 = .ok (.istore 7, 2) := by decide +kernel
theorem prd_X_step_381 : decode prb_X_step 381 = .ok (.aload_n 0, 1) := by decide +kernel
theorem prd_X_step_382 : decode prb_X_step 382 = .ok (.iload_n 2, 1) := by decide +kernel
theorem prd_X_step_383 : decode prb_X_step 383 = .ok (.invokevirtual 350, 3) := by decide +kernel
theorem prd_X_step_386 : decode prb_X_step 386 = .ok (.istore 8, 2) := by decide +kernel
theorem prd_X_step_388 : decode prb_X_step 388 = .ok (.aload_n 0, 1) := by decide +kernel
theorem prd_X_step_389 : decode prb_X_step 389 = .ok (.getfield 377, 3) := by decide +kernel
theorem prd_X_step_392 : decode prb_X_step 392 = .ok (.ifCond .le 5, 3) := by decide +kernel
theorem prd_X_step_397 : decode prb_X_step 397 = .ok (.iload 7, 2) := by decide +kernel
theorem prd_X_step_399 : decode prb_X_step 399 = .ok (.ifCond .eq 26, 3) := by decide +kernel
theorem prd_X_step_425 : decode prb_X_step 425 = .ok (.aload_n 0, 1) := by decide +kernel
theorem prd_X_step_426 : decode prb_X_step 426 = .ok (.iload 8, 2) := by decide +kernel
theorem prd_X_step_428 : decode prb_X_step 428 = .ok (.invokevirtual 307, 3) := by decide +kernel
theorem prd_X_step_431 : decode prb_X_step 431 = .ok (.aload_n 0, 1) := by decide +kernel
theorem prd_X_step_432 : decode prb_X_step 432 = .ok (.iload_n 2, 1) := by decide +kernel
theorem prd_X_step_433 : decode prb_X_step 433 = .ok (.invokevirtual 307, 3) := by decide +kernel
theorem prd_X_step_436 : decode prb_X_step 436 = .ok (.if_icmp .ge 26, 3) := by decide +kernel
theorem prd_X_step_462 : decode prb_X_step 462 = .ok (.aload_n 0, 1) := by decide +kernel
theorem prd_X_step_463 : decode prb_X_step 463 = .ok (.iload_n 1, 1) := by decide +kernel
theorem prd_X_step_464 : decode prb_X_step 464 = .ok (.invokevirtual 371, 3) := by decide +kernel
theorem prd_X_step_467 : decode prb_X_step 467 = .ok (.ireturn, 1) := by decide +kernel
theorem prd_X_step_439 : decode prb_X_step 439 = .ok (.aload_n 0, 1) := by decide +kernel
theorem prd_X_step_440 : decode prb_X_step 440 = .ok (.getfield 59, 3) := by decide +kernel
theorem prd_X_step_443 : decode prb_X_step 443 = .ok (.aload_n 0, 1) := by decide +kernel
theorem prd_X_step_444 : decode prb_X_step 444 = .ok (.iload 8, 2) := by decide +kernel
theorem prd_X_step_446 : decode prb_X_step 446 = .ok (.invokevirtual 307, 3) := by decide +kernel
theorem prd_X_step_449 : decode prb_X_step 449 = .ok (.iaload, 1) := by decide +kernel
theorem prd_X_step_450 : decode prb_X_step 450 = .ok (.iconst 1, 1) := by decide +kernel
theorem prd_X_step_451 : decode prb_X_step 451 = .ok (.if_icmp .le 11, 3) := by decide +kernel
theorem prd_X_step_454 : decode prb_X_step 454 = .ok (.aload_n 0, 1) := by decide +kernel
theorem prd_X_step_455 : decode prb_X_step 455 = .ok (.iload_n 1, 1) := by decide +kernel
theorem prd_X_step_456 : decode prb_X_step 456 = .ok (.invokevirtual 410, 3) := by decide +kernel
theorem prd_X_step_459 : decode prb_X_step 459 = .ok (.goto 8, 3) := by decide +kernel
theorem prd_X_step_402 : decode prb_X_step 402 = .ok (.aload_n 0, 1) := by decide +kernel
theorem prd_X_step_403 : decode prb_X_step 403 = .ok (.getfield 59, 3) := by decide +kernel
theorem prd_X_step_406 : decode prb_X_step 406 = .ok (.iload 8, 2) := by decide +kernel
theorem prd_X_step_408 : decode prb_X_step 408 = .ok (.iaload, 1) := by decide +kernel
theorem prd_X_step_409 : decode prb_X_step 409 = .ok (.iconst 1, 1) := by decide +kernel
theorem prd_X_step_410 : decode prb_X_step 410 = .ok (.if_icmp .le 9, 3) := by decide +kernel
theorem prd_X_step_419 : decode prb_X_step 419 = .ok (.aload_n 0, 1) := by decide +kernel
theorem prd_X_step_420 : decode prb_X_step 420 = .ok (.iload_n 1, 1) := by decide +kernel
theorem prd_X_step_421 : decode prb_X_step 421 = .ok (.invokevirtual 371, 3) := by decide +kernel
theorem prd_X_step_424 : decode prb_X_step 424 = .ok (.ireturn, 1) := by decide +kernel
theorem prd_X_step_413 : decode prb_X_step 413 = .ok (.iload_n 1, 1) := by decide +kernel
theorem prd_X_step_414 : decode prb_X_step 414 = .ok (.iconst 1, 1) := by decide +kernel
theorem prd_X_step_415 : decode prb_X_step 415 = .ok (.iadd, 1) := by decide +kernel
theorem prd_X_step_416 : decode prb_X_step 416 = .ok (.goto 8, 3) := by decide +kernel
theorem prd_X_step_395 : decode prb_X_step 395 = .ok (.iload_n 1, 1) := by decide +kernel
theorem prd_X_step_396 : decode prb_X_step 396 = .ok (.ireturn, 1) := by decide +kernel
theorem prd_X_step_468 : decode prb_X_step 468 = .ok (.aload_n 0, 1) := by decide +kernel
theorem prd_X_step_469 : decode prb_X_step 469 = .ok (.iload_n 2, 1) := by decide +kernel
theorem prd_X_step_470 : decode prb_X_step 470 = .ok (.iconst 1, 1) := by decide +kernel
theorem prd_X_step_471 : decode prb_X_step 471 = .ok (.iadd, 1) := by decide +kernel
theorem prd_X_step_472 : decode prb_X_step 472 = .ok (.invokevirtual 407, 3) := by decide +kernel
theorem prd_X_step_475 : decode prb_X_step 475 = .ok (.istore 9, 2) := by decide +kernel
theorem prd_X_step_477 : decode prb_X_step 477 = .ok (.aload_n 0, 1) := by decide +kernel
theorem prd_X_step_478 : decode prb_X_step 478 = .ok (.getfield 377, 3) := by decide +kernel
theorem prd_X_step_481 : decode prb_X_step 481 = .ok (.ifCond .le 7, 3) := by decide +kernel
theorem prd_X_step_488 : decode prb_X_step 488 = .ok (.iload 9, 2) := by decide +kernel
theorem prd_X_step_490 : decode prb_X_step 490 = .ok (.ifCond .ne 11, 3) := by decide +kernel
theorem prd_X_step_501 : decode prb_X_step 501 = .ok (.aload_n 0, 1) := by decide +kernel
theorem prd_X_step_502 : decode prb_X_step 502 = .ok (.getfield 59, 3) := by decide +kernel
theorem prd_X_step_505 : decode prb_X_step 505 = .ok (.aload_n 0, 1) := by decide +kernel
theorem prd_X_step_506 : decode prb_X_step 506 = .ok (.iload_n 2, 1) := by decide +kernel
theorem prd_X_step_507 : decode prb_X_step 507 = .ok (.invokevirtual 350, 3) := by decide +kernel
theorem prd_X_step_510 : decode prb_X_step 510 = .ok (.iaload, 1) := by decide +kernel
theorem prd_X_step_511 : decode prb_X_step 511 = .ok (.iconst 1, 1) := by decide +kernel
theorem prd_X_step_512 : decode prb_X_step 512 = .ok (.if_icmp .le 9, 3) := by decide +kernel
theorem prd_X_step_521 : decode prb_X_step 521 = .ok (.iload_n 1, 1) := by decide +kernel
theorem prd_X_step_522 : decode prb_X_step 522 = .ok (.ireturn, 1) := by decide +kernel
theorem prd_X_step_515 : decode prb_X_step 515 = .ok (.iload_n 1, 1) := by decide +kernel
theorem prd_X_step_516 : decode prb_X_step 516 = .ok (.iconst 1, 1) := by decide +kernel
theorem prd_X_step_517 : decode prb_X_step 517 = .ok (.iadd, 1) := by decide +kernel
theorem prd_X_step_518 : decode prb_X_step 518 = .ok (.goto 4, 3) := by decide +kernel
theorem prd_X_step_493 : decode prb_X_step 493 = .ok (.aload_n 0, 1) := by decide +kernel
theorem prd_X_step_494 : decode prb_X_step 494 = .ok (.iload_n 1, 1) := by decide +kernel
theorem prd_X_step_495 : decode prb_X_step 495 = .ok (.invokevirtual 371, 3) := by decide +kernel
theorem prd_X_step_498 : decode prb_X_step 498 = .ok (.goto 24, 3) := by decide +kernel
theorem prd_X_step_484 : decode prb_X_step 484 = .ok (.iload_n 1, 1) := by decide +kernel
theorem prd_X_step_485 : decode prb_X_step 485 = .ok (.goto 37, 3) := by decide +kernel
theorem prd_X_step_523 : decode prb_X_step 523 = .ok (.aload_n 0, 1) := by decide +kernel
theorem prd_X_step_524 : decode prb_X_step 524 = .ok (.iload_n 2, 1) := by decide +kernel
theorem prd_X_step_525 : decode prb_X_step 525 = .ok (.iconst 1, 1) := by decide +kernel
theorem prd_X_step_526 : decode prb_X_step 526 = .ok (.iadd, 1) := by decide +kernel
theorem prd_X_step_527 : decode prb_X_step 527 = .ok (.invokevirtual 407, 3) := by decide +kernel
theorem prd_X_step_530 : decode prb_X_step 530 = .ok (.ifCond .ne 10, 3) := by decide +kernel
theorem prd_X_step_540 : decode prb_X_step 540 = .ok (.aload_n 0, 1) := by decide +kernel
theorem prd_X_step_541 : decode prb_X_step 541 = .ok (.iload_n 1, 1) := by decide +kernel
theorem prd_X_step_542 : decode prb_X_step 542 = .ok (.invokevirtual 371, 3) := by decide +kernel
theorem prd_X_step_545 : decode prb_X_step 545 = .ok (.ireturn, 1) := by decide +kernel
theorem prd_X_step_533 : decode prb_X_step 533 = .ok (.aload_n 0, 1) := by decide +kernel
theorem prd_X_step_534 : decode prb_X_step 534 = .ok (.bipush 8, 2) := by decide +kernel
theorem prd_X_step_536 : decode prb_X_step 536 = .ok (.invokevirtual 382, 3) := by decide +kernel
theorem prd_X_step_539 : decode prb_X_step 539 = .ok (.pop2, 1) := by decide +kernel
theorem prd_X_step_546 : decode prb_X_step 546 = .ok (.aload_n 0, 1) := by decide +kernel
theorem prd_X_step_547 : decode prb_X_step 547 = .ok (.iload_n 2, 1) := by decide +kernel
theorem prd_X_step_548 : decode prb_X_step 548 = .ok (.iconst 1, 1) := by decide +kernel
theorem prd_X_step_549 : decode prb_X_step 549 = .ok (.iadd, 1) := by decide +kernel
theorem prd_X_step_550 : decode prb_X_step 550 = .ok (.invokevirtual 389, 3) := by decide +kernel
theorem prd_X_step_553 : decode prb_X_step 553 = .ok (.lstore_n 3, 1) := by decide +kernel
theorem prd_X_step_554 : decode prb_X_step 554 = .ok (.aload_n 0, 1) := by decide +kernel
theorem prd_X_step_555 : decode prb_X_step 555 = .ok (.getfield 377, 3) := by decide +kernel
theorem prd_X_step_558 : decode prb_X_step 558 = .ok (.ifCond .ne 24, 3) := by decide +kernel
theorem prd_X_step_582 : decode prb_X_step 582 = .ok (.aload_n 0, 1) := by decide +kernel
theorem prd_X_step_583 : decode prb_X_step 583 = .ok (.iload_n 1, 1) := by decide +kernel
theorem prd_X_step_584 : decode prb_X_step 584 = .ok (.invokevirtual 371, 3) := by decide +kernel
theorem prd_X_step_587 : decode prb_X_step 587 = .ok (.ireturn, 1) := by decide +kernel
theorem prd_X_step_561 : decode prb_X_step 561 = .ok (.aload_n 0, 1) := by decide +kernel
theorem prd_X_step_562 : decode prb_X_step 562 = .ok (.iload_n 1, 1) := by decide +kernel
theorem prd_X_step_563 : decode prb_X_step 563 = .ok (.invokevirtual 413, 3) := by decide +kernel
theorem prd_X_step_566 : decode prb_X_step 566 = .ok (.iconst (-1), 1) := by decide +kernel
theorem prd_X_step_567 : decode prb_X_step 567 = .ok (.if_icmp .eq 15, 3) := by decide +kernel
theorem prd_X_step_570 : decode prb_X_step 570 = .ok (.aload_n 0, 1) := by decide +kernel
theorem prd_X_step_571 : decode prb_X_step 571 = .ok (.getfield 113, 3) := by decide +kernel
theorem prd_X_step_574 : decode prb_X_step 574 = .ok (.aload_n 0, 1) := by decide +kernel
theorem prd_X_step_575 : decode prb_X_step 575 = .ok (.iload_n 1, 1) := by decide +kernel
theorem prd_X_step_576 : decode prb_X_step 576 = .ok (.invokevirtual 413, 3) := by decide +kernel
theorem prd_X_step_579 : decode prb_X_step 579 = .ok (.lload_n 3, 1) := by decide +kernel
theorem prd_X_step_580 : decode prb_X_step 580 = .ok (.l2i, 1) := by decide +kernel
theorem prd_X_step_581 : decode prb_X_step 581 = .ok (.iastore, 1) := by decide +kernel
theorem prd_X_step_259 : decode prb_X_step 259 = .ok (.iload 7, 2) := by decide +kernel
theorem prd_X_step_261 : decode prb_X_step 261 = .ok (.aload_n 0, 1) := by decide +kernel
theorem prd_X_step_262 : decode prb_X_step 262 = .ok (.iload_n 2, 1) := by decide +kernel
theorem prd_X_step_263 : decode prb_X_step 263 = .ok (.invokevirtual 307, 3) := by decide +kernel
theorem prd_X_step_266 : decode prb_X_step 266 = .ok (.if_icmp .ge 37, 3) := by decide +kernel
theorem prd_X_step_303 : decode prb_X_step 303 = .ok (.iconst 0, 1) := by decide +kernel
theorem prd_X_step_304 : decode prb_X_step 304 = .ok (.istore 7, 2) := by decide +kernel
theorem prd_X_step_269 : decode prb_X_step 269 = .ok (.aload_n 0, 1) := by decide +kernel
theorem prd_X_step_270 : decode prb_X_step 270 = .ok (.getfield 377, 3) := by decide +kernel
theorem prd_X_step_273 : decode prb_X_step 273 = .ok (.ifCond .ne 30, 3) := by decide +kernel
theorem prd_X_step_276 : decode prb_X_step 276 = .ok (.aload_n 0, 1) := by decide +kernel
theorem prd_X_step_277 : decode prb_X_step 277 = .ok (.getfield 119, 3) := by decide +kernel
theorem prd_X_step_280 : decode prb_X_step 280 = .ok (.iload 6, 2) := by decide +kernel
theorem prd_X_step_282 : decode prb_X_step 282 = .ok (.aload_n 0, 1) := by decide +kernel
theorem prd_X_step_283 : decode prb_X_step 283 = .ok (.iload 7, 2) := by decide +kernel
theorem prd_X_step_285 : decode prb_X_step 285 = .ok (.invokevirtual 389, 3) := by decide +kernel
theorem prd_X_step_288 : decode prb_X_step 288 = .ok (.lastore, 1) := by decide +kernel
theorem prd_X_step_289 : decode prb_X_step 289 = .ok (.iinc 6 1, 3) := by decide +kernel
theorem prd_X_step_292 : decode prb_X_step 292 = .ok (.aload_n 0, 1) := by decide +kernel
theorem prd_X_step_293 : decode prb_X_step 293 = .ok (.iload 7, 2) := by decide +kernel
theorem prd_X_step_295 : decode prb_X_step 295 = .ok (.invokevirtual 307, 3) := by decide +kernel
theorem prd_X_step_298 : decode prb_X_step 298 = .ok (.istore 7, 2) := by decide +kernel
theorem prd_X_step_300 : decode prb_X_step 300 = .ok (.goto (-41), 3) := by decide +kernel
theorem prd_X_step_306 : decode prb_X_step 306 = .ok (.iload 7, 2) := by decide +kernel
theorem prd_X_step_308 : decode prb_X_step 308 = .ok (.iload 6, 2) := by decide +kernel
theorem prd_X_step_310 : decode prb_X_step 310 = .ok (.if_icmp .ge 38, 3) := by decide +kernel
theorem prd_X_step_313 : decode prb_X_step 313 = .ok (.aload_n 0, 1) := by decide +kernel
theorem prd_X_step_314 : decode prb_X_step 314 = .ok (.getfield 377, 3) := by decide +kernel
theorem prd_X_step_317 : decode prb_X_step 317 = .ok (.ifCond .ne 31, 3) := by decide +kernel
theorem prd_X_step_320 : decode prb_X_step 320 = .ok (.aload_n 0, 1) := by decide +kernel
theorem prd_X_step_321 : decode prb_X_step 321 = .ok (.getfield 113, 3) := by decide +kernel
theorem prd_X_step_324 : decode prb_X_step 324 = .ok (.aload_n 0, 1) := by decide +kernel
theorem prd_X_step_325 : decode prb_X_step 325 = .ok (.getfield 77, 3) := by decide +kernel
theorem prd_X_step_328 : decode prb_X_step 328 = .ok (.iload_n 1, 1) := by decide +kernel
theorem prd_X_step_329 : decode prb_X_step 329 = .ok (.iaload, 1) := by decide +kernel
theorem prd_X_step_330 : decode prb_X_step 330 = .ok (.iload 7, 2) := by decide +kernel
theorem prd_X_step_332 : decode prb_X_step 332 = .ok (.iadd, 1) := by decide +kernel
theorem prd_X_step_333 : decode prb_X_step 333 = .ok (.aload_n 0, 1) := by decide +kernel
theorem prd_X_step_334 : decode prb_X_step 334 = .ok (.getfield 119, 3) := by decide +kernel
theorem prd_X_step_337 : decode prb_X_step 337 = .ok (.iload 7, 2) := by decide +kernel
theorem prd_X_step_339 : decode prb_X_step 339 = .ok (.laload, 1) := by decide +kernel
theorem prd_X_step_340 : decode prb_X_step 340 = .ok (.l2i, 1) := by decide +kernel
theorem prd_X_step_341 : decode prb_X_step 341 = .ok (.iastore, 1) := by decide +kernel
theorem prd_X_step_342 : decode prb_X_step 342 = .ok (.iinc 7 1, 3) := by decide +kernel
theorem prd_X_step_345 : decode prb_X_step 345 = .ok (.goto (-39), 3) := by decide +kernel
theorem prd_X_step_348 : decode prb_X_step 348 = .ok (.aload_n 0, 1) := by decide +kernel
theorem prd_X_step_349 : decode prb_X_step 349 = .ok (.getfield 74, 3) := by decide +kernel
theorem prd_X_step_352 : decode prb_X_step 352 = .ok (.iload_n 1, 1) := by decide +kernel
theorem prd_X_step_353 : decode prb_X_step 353 = .ok (.iaload, 1) := by decide +kernel
theorem prd_X_step_354 : decode prb_X_step 354 = .ok (.iload_n 1, 1) := by decide +kernel
theorem prd_X_step_355 : decode prb_X_step 355 = .ok (.iconst 1, 1) := by decide +kernel
theorem prd_X_step_356 : decode prb_X_step 356 = .ok (.iadd, 1) := by decide +kernel
theorem prd_X_step_357 : decode prb_X_step 357 = .ok (.if_icmp .le 9, 3) := by decide +kernel
theorem prd_X_step_366 : decode prb_X_step 366 = .ok (.aload_n 0, 1) := by decide +kernel
theorem prd_X_step_367 : decode prb_X_step 367 = .ok (.iload_n 1, 1) := by decide +kernel
theorem prd_X_step_368 : decode prb_X_step 368 = .ok (.invokevirtual 371, 3) := by decide +kernel
theorem prd_X_step_371 : decode prb_X_step 371 = .ok (.ireturn, 1) := by decide +kernel
theorem prd_X_step_360 : decode prb_X_step 360 = .ok (.iload_n 1, 1) := by decide +kernel
theorem prd_X_step_361 : decode prb_X_step 361 = .ok (.iconst 1, 1) := by decide +kernel
theorem prd_X_step_362 : decode prb_X_step 362 = .ok (.iadd, 1) := by decide +kernel
theorem prd_X_step_363 : decode prb_X_step 363 = .ok (.goto 8, 3) := by decide +kernel
theorem prd_X_step_117 : decode prb_X_step 117 = .ok (.iload 5, 2) := by decide +kernel
theorem prd_X_step_119 : decode prb_X_step 119 = .ok (.bipush 64, 2) := by decide +kernel
theorem prd_X_step_121 : decode prb_X_step 121 = .ok (.if_icmp .ge 27, 3) := by decide +kernel
theorem prd_X_step_148 : decode prb_X_step 148 = .ok (.aload_n 0, 1) := by decide +kernel
theorem prd_X_step_149 : decode prb_X_step 149 = .ok (.iload_n 1, 1) := by decide +kernel
theorem prd_X_step_150 : decode prb_X_step 150 = .ok (.invokevirtual 371, 3) := by decide +kernel
theorem prd_X_step_153 : decode prb_X_step 153 = .ok (.ireturn, 1) := by decide +kernel
theorem prd_X_step_124 : decode prb_X_step 124 = .ok (.aload_n 0, 1) := by decide +kernel
theorem prd_X_step_125 : decode prb_X_step 125 = .ok (.getfield 116, 3) := by decide +kernel
theorem prd_X_step_128 : decode prb_X_step 128 = .ok (.bipush 64, 2) := by decide +kernel
theorem prd_X_step_130 : decode prb_X_step 130 = .ok (.aload_n 0, 1) := by decide +kernel
theorem prd_X_step_131 : decode prb_X_step 131 = .ok (.getfield 80, 3) := by decide +kernel
theorem prd_X_step_134 : decode prb_X_step 134 = .ok (.iload_n 1, 1) := by decide +kernel
theorem prd_X_step_135 : decode prb_X_step 135 = .ok (.iaload, 1) := by decide +kernel
theorem prd_X_step_136 : decode prb_X_step 136 = .ok (.imul, 1) := by decide +kernel
theorem prd_X_step_137 : decode prb_X_step 137 = .ok (.iload 5, 2) := by decide +kernel
theorem prd_X_step_139 : decode prb_X_step 139 = .ok (.iadd, 1) := by decide +kernel
theorem prd_X_step_140 : decode prb_X_step 140 = .ok (.iconst 0, 1) := by decide +kernel
theorem prd_X_step_141 : decode prb_X_step 141 = .ok (.iastore, 1) := by decide +kernel
theorem prd_X_step_142 : decode prb_X_step 142 = .ok (.iinc 5 1, 3) := by decide +kernel
theorem prd_X_step_145 : decode prb_X_step 145 = .ok (.goto (-28), 3) := by decide +kernel
theorem prd_X_run_0 : decode prb_X_run 0 = .ok (.iload_n 1, 1) := by decide +kernel
theorem prd_X_run_1 : decode prb_X_run 1 = .ok (.ifCond .lt 10, 3) := by decide +kernel
theorem prd_X_run_11 : decode prb_X_run 11 = .ok (.iconst (-1), 1) := by decide +kernel
theorem prd_X_run_12 : decode prb_X_run 12 = .ok (.ireturn, 1) := by decide +kernel
theorem prd_X_run_4 : decode prb_X_run 4 = .ok (.iload_n 1, 1) := by decide +kernel
theorem prd_X_run_5 : decode prb_X_run 5 = .ok (.sipush 2000, 3) := by decide +kernel
theorem prd_X_run_8 : decode prb_X_run 8 = .ok (.if_icmp .le 5, 3) := by decide +kernel
theorem prd_X_run_13 : decode prb_X_run 13 = .ok (.aload_n 0, 1) := by decide +kernel
theorem prd_X_run_14 : decode prb_X_run 14 = .ok (.iconst 0, 1) := by decide +kernel
theorem prd_X_run_15 : decode prb_X_run 15 = .ok (.putfield 151, 3) := by decide +kernel
theorem prd_X_run_18 : decode prb_X_run 18 = .ok (.aload_n 0, 1) := by decide +kernel
theorem prd_X_run_19 : decode prb_X_run 19 = .ok (.iconst 0, 1) := by decide +kernel
theorem prd_X_run_20 : decode prb_X_run 20 = .ok (.putfield 154, 3) := by decide +kernel
theorem prd_X_run_23 : decode prb_X_run 23 = .ok (.aload_n 0, 1) := by decide +kernel
theorem prd_X_run_24 : decode prb_X_run 24 = .ok (.iconst 0, 1) := by decide +kernel
theorem prd_X_run_25 : decode prb_X_run 25 = .ok (.putfield 386, 3) := by decide +kernel
theorem prd_X_run_28 : decode prb_X_run 28 = .ok (.aload_n 0, 1) := by decide +kernel
theorem prd_X_run_29 : decode prb_X_run 29 = .ok (.iconst 0, 1) := by decide +kernel
theorem prd_X_run_30 : decode prb_X_run 30 = .ok (.putfield 377, 3) := by decide +kernel
theorem prd_X_run_33 : decode prb_X_run 33 = .ok (.aload_n 0, 1) := by decide +kernel
theorem prd_X_run_34 : decode prb_X_run 34 = .ok (.getfield 154, 3) := by decide +kernel
theorem prd_X_run_37 : decode prb_X_run 37 = .ok (.iload_n 1, 1) := by decide +kernel
theorem prd_X_run_38 : decode prb_X_run 38 = .ok (.if_icmp .ge 60, 3) := by decide +kernel
theorem prd_X_run_41 : decode prb_X_run 41 = .ok (.aload_n 0, 1) := by decide +kernel
theorem prd_X_run_42 : decode prb_X_run 42 = .ok (.getfield 377, 3) := by decide +kernel
theorem prd_X_run_45 : decode prb_X_run 45 = .ok (.ifCond .ne 53, 3) := by decide +kernel
theorem prd_X_run_48 : decode prb_X_run 48 = .ok (.aload_n 0, 1) := by decide +kernel
theorem prd_X_run_49 : decode prb_X_run 49 = .ok (.getfield 151, 3) := by decide +kernel
theorem prd_X_run_52 : decode prb_X_run 52 = .ok (.aload_n 0, 1) := by decide +kernel
theorem prd_X_run_53 : decode prb_X_run 53 = .ok (.getfield 148, 3) := by decide +kernel
theorem prd_X_run_56 : decode prb_X_run 56 = .ok (.iconst 1, 1) := by decide +kernel
theorem prd_X_run_57 : decode prb_X_run 57 = .ok (.isub, 1) := by decide +kernel
theorem prd_X_run_58 : decode prb_X_run 58 = .ok (.if_icmp .ge 40, 3) := by decide +kernel
theorem prd_X_run_61 : decode prb_X_run 61 = .ok (.aload_n 0, 1) := by decide +kernel
theorem prd_X_run_62 : decode prb_X_run 62 = .ok (.invokevirtual 416, 3) := by decide +kernel
theorem prd_X_run_65 : decode prb_X_run 65 = .ok (.istore_n 2, 1) := by decide +kernel
theorem prd_X_run_66 : decode prb_X_run 66 = .ok (.aload_n 0, 1) := by decide +kernel
theorem prd_X_run_67 : decode prb_X_run 67 = .ok (.dup, 1) := by decide +kernel
theorem prd_X_run_68 : decode prb_X_run 68 = .ok (.getfield 154, 3) := by decide +kernel
theorem prd_X_run_71 : decode prb_X_run 71 = .ok (.iconst 1, 1) := by decide +kernel
theorem prd_X_run_72 : decode prb_X_run 72 = .ok (.iadd, 1) := by decide +kernel
theorem prd_X_run_73 : decode prb_X_run 73 = .ok (.putfield 154, 3) := by decide +kernel
theorem prd_X_run_76 : decode prb_X_run 76 = .ok (.aload_n 0, 1) := by decide +kernel
theorem prd_X_run_77 : decode prb_X_run 77 = .ok (.aload_n 0, 1) := by decide +kernel
theorem prd_X_run_78 : decode prb_X_run 78 = .ok (.getfield 377, 3) := by decide +kernel
theorem prd_X_run_81 : decode prb_X_run 81 = .ok (.ifCond .ne 7, 3) := by decide +kernel
theorem prd_X_run_88 : decode prb_X_run 88 = .ok (.aload_n 0, 1) := by decide +kernel
theorem prd_X_run_89 : decode prb_X_run 89 = .ok (.getfield 151, 3) := by decide +kernel
theorem prd_X_run_92 : decode prb_X_run 92 = .ok (.putfield 151, 3) := by decide +kernel
theorem prd_X_run_95 : decode prb_X_run 95 = .ok (.goto (-62), 3) := by decide +kernel
theorem prd_X_run_84 : decode prb_X_run 84 = .ok (.iload_n 2, 1) := by decide +kernel
theorem prd_X_run_85 : decode prb_X_run 85 = .ok (.goto 7, 3) := by decide +kernel
theorem prd_X_run_98 : decode prb_X_run 98 = .ok (.aload_n 0, 1) := by decide +kernel
theorem prd_X_run_99 : decode prb_X_run 99 = .ok (.aload_n 0, 1) := by decide +kernel
theorem prd_X_run_100 : decode prb_X_run 100 = .ok (.getfield 386, 3) := by decide +kernel
theorem prd_X_run_103 : decode prb_X_run 103 = .ok (.aload_n 0, 1) := by decide +kernel
theorem prd_X_run_104 : decode prb_X_run 104 = .ok (.getfield 374, 3) := by decide +kernel
theorem prd_X_run_107 : decode prb_X_run 107 = .ok (.invokestatic 419, 3) := by decide +kernel
theorem prd_X_run_110 : decode prb_X_run 110 = .ok (.putfield 157, 3) := by decide +kernel
theorem prd_X_run_113 : decode prb_X_run 113 = .ok (.aload_n 0, 1) := by decide +kernel
theorem prd_X_run_114 : decode prb_X_run 114 = .ok (.getfield 377, 3) := by decide +kernel
theorem prd_X_run_117 : decode prb_X_run 117 = .ok (.ifCond .le 10, 3) := by decide +kernel
theorem prd_X_run_127 : decode prb_X_run 127 = .ok (.aload_n 0, 1) := by decide +kernel
theorem prd_X_run_128 : decode prb_X_run 128 = .ok (.getfield 151, 3) := by decide +kernel
theorem prd_X_run_131 : decode prb_X_run 131 = .ok (.aload_n 0, 1) := by decide +kernel
theorem prd_X_run_132 : decode prb_X_run 132 = .ok (.getfield 148, 3) := by decide +kernel
theorem prd_X_run_135 : decode prb_X_run 135 = .ok (.iconst 1, 1) := by decide +kernel
theorem prd_X_run_136 : decode prb_X_run 136 = .ok (.isub, 1) := by decide +kernel
theorem prd_X_run_137 : decode prb_X_run 137 = .ok (.if_icmp .ne 7, 3) := by decide +kernel
theorem prd_X_run_144 : decode prb_X_run 144 = .ok (.bipush 16, 2) := by decide +kernel
theorem prd_X_run_146 : decode prb_X_run 146 = .ok (.ireturn, 1) := by decide +kernel
theorem prd_X_run_140 : decode prb_X_run 140 = .ok (.iconst 0, 1) := by decide +kernel
theorem prd_X_run_141 : decode prb_X_run 141 = .ok (.goto 5, 3) := by decide +kernel
theorem prd_X_run_120 : decode prb_X_run 120 = .ok (.aload_n 0, 1) := by decide +kernel
theorem prd_X_run_121 : decode prb_X_run 121 = .ok (.getfield 377, 3) := by decide +kernel
theorem prd_X_run_124 : decode prb_X_run 124 = .ok (.goto 22, 3) := by decide +kernel
theorem prd_X_ran_0 : decode prb_X_ran 0 = .ok (.iload_n 1, 1) := by decide +kernel
theorem prd_X_ran_1 : decode prb_X_ran 1 = .ok (.ifCond .ne 10, 3) := by decide +kernel
theorem prd_X_ran_11 : decode prb_X_ran 11 = .ok (.iload_n 1, 1) := by decide +kernel
theorem prd_X_ran_12 : decode prb_X_ran 12 = .ok (.iconst 1, 1) := by decide +kernel
theorem prd_X_ran_13 : decode prb_X_ran 13 = .ok (.if_icmp .ne 10, 3) := by decide +kernel
theorem prd_X_ran_23 : decode prb_X_ran 23 = .ok (.iload_n 1, 1) := by decide +kernel
theorem prd_X_ran_24 : decode prb_X_ran 24 = .ok (.iconst 2, 1) := by decide +kernel
theorem prd_X_ran_25 : decode prb_X_ran 25 = .ok (.if_icmp .ne 10, 3) := by decide +kernel
theorem prd_X_ran_35 : decode prb_X_ran 35 = .ok (.iconst (-1), 1) := by decide +kernel
theorem prd_X_ran_36 : decode prb_X_ran 36 = .ok (.ireturn, 1) := by decide +kernel
theorem prd_X_ran_28 : decode prb_X_ran 28 = .ok (.aload_n 0, 1) := by decide +kernel
theorem prd_X_ran_29 : decode prb_X_ran 29 = .ok (.getfield 157, 3) := by decide +kernel
theorem prd_X_ran_32 : decode prb_X_ran 32 = .ok (.goto 4, 3) := by decide +kernel
theorem prd_X_ran_16 : decode prb_X_ran 16 = .ok (.aload_n 0, 1) := by decide +kernel
theorem prd_X_ran_17 : decode prb_X_ran 17 = .ok (.getfield 154, 3) := by decide +kernel
theorem prd_X_ran_20 : decode prb_X_ran 20 = .ok (.goto 16, 3) := by decide +kernel
theorem prd_X_ran_4 : decode prb_X_ran 4 = .ok (.aload_n 0, 1) := by decide +kernel
theorem prd_X_ran_5 : decode prb_X_ran 5 = .ok (.getfield 151, 3) := by decide +kernel
theorem prd_X_ran_8 : decode prb_X_ran 8 = .ok (.goto 28, 3) := by decide +kernel
theorem prd_X_value_0 : decode prb_X_value 0 = .ok (.iload_n 1, 1) := by decide +kernel
theorem prd_X_value_1 : decode prb_X_value 1 = .ok (.ifCond .lt 16, 3) := by decide +kernel
theorem prd_X_value_17 : decode prb_X_value 17 = .ok (.iconst 0, 1) := by decide +kernel
theorem prd_X_value_18 : decode prb_X_value 18 = .ok (.goto 9, 3) := by decide +kernel
theorem prd_X_value_27 : decode prb_X_value 27 = .ok (.ireturn, 1) := by decide +kernel
theorem prd_X_value_4 : decode prb_X_value 4 = .ok (.iload_n 1, 1) := by decide +kernel
theorem prd_X_value_5 : decode prb_X_value 5 = .ok (.aload_n 0, 1) := by decide +kernel
theorem prd_X_value_6 : decode prb_X_value 6 = .ok (.getfield 77, 3) := by decide +kernel
theorem prd_X_value_9 : decode prb_X_value 9 = .ok (.aload_n 0, 1) := by decide +kernel
theorem prd_X_value_10 : decode prb_X_value 10 = .ok (.getfield 151, 3) := by decide +kernel
theorem prd_X_value_13 : decode prb_X_value 13 = .ok (.iaload, 1) := by decide +kernel
theorem prd_X_value_14 : decode prb_X_value 14 = .ok (.if_icmp .lt 7, 3) := by decide +kernel
theorem prd_X_value_21 : decode prb_X_value 21 = .ok (.aload_n 0, 1) := by decide +kernel
theorem prd_X_value_22 : decode prb_X_value 22 = .ok (.getfield 113, 3) := by decide +kernel
theorem prd_X_value_25 : decode prb_X_value 25 = .ok (.iload_n 1, 1) := by decide +kernel
theorem prd_X_value_26 : decode prb_X_value 26 = .ok (.iaload, 1) := by decide +kernel
theorem prd_X_place_0 : decode prb_X_place 0 = .ok (.iload_n 1, 1) := by decide +kernel
theorem prd_X_place_1 : decode prb_X_place 1 = .ok (.ifCond .lt 26, 3) := by decide +kernel
theorem prd_X_place_27 : decode prb_X_place 27 = .ok (.iconst 0, 1) := by decide +kernel
theorem prd_X_place_28 : decode prb_X_place 28 = .ok (.goto 14, 3) := by decide +kernel
theorem prd_X_place_42 : decode prb_X_place 42 = .ok (.ireturn, 1) := by decide +kernel
theorem prd_X_place_4 : decode prb_X_place 4 = .ok (.iload_n 1, 1) := by decide +kernel
theorem prd_X_place_5 : decode prb_X_place 5 = .ok (.aload_n 0, 1) := by decide +kernel
theorem prd_X_place_6 : decode prb_X_place 6 = .ok (.getfield 80, 3) := by decide +kernel
theorem prd_X_place_9 : decode prb_X_place 9 = .ok (.aload_n 0, 1) := by decide +kernel
theorem prd_X_place_10 : decode prb_X_place 10 = .ok (.getfield 151, 3) := by decide +kernel
theorem prd_X_place_13 : decode prb_X_place 13 = .ok (.iaload, 1) := by decide +kernel
theorem prd_X_place_14 : decode prb_X_place 14 = .ok (.if_icmp .ge 13, 3) := by decide +kernel
theorem prd_X_place_17 : decode prb_X_place 17 = .ok (.iload_n 2, 1) := by decide +kernel
theorem prd_X_place_18 : decode prb_X_place 18 = .ok (.ifCond .lt 9, 3) := by decide +kernel
theorem prd_X_place_21 : decode prb_X_place 21 = .ok (.iload_n 2, 1) := by decide +kernel
theorem prd_X_place_22 : decode prb_X_place 22 = .ok (.bipush 64, 2) := by decide +kernel
theorem prd_X_place_24 : decode prb_X_place 24 = .ok (.if_icmp .lt 7, 3) := by decide +kernel
theorem prd_X_place_31 : decode prb_X_place 31 = .ok (.aload_n 0, 1) := by decide +kernel
theorem prd_X_place_32 : decode prb_X_place 32 = .ok (.getfield 116, 3) := by decide +kernel
theorem prd_X_place_35 : decode prb_X_place 35 = .ok (.bipush 64, 2) := by decide +kernel
theorem prd_X_place_37 : decode prb_X_place 37 = .ok (.iload_n 1, 1) := by decide +kernel
theorem prd_X_place_38 : decode prb_X_place 38 = .ok (.imul, 1) := by decide +kernel
theorem prd_X_place_39 : decode prb_X_place 39 = .ok (.iload_n 2, 1) := by decide +kernel
theorem prd_X_place_40 : decode prb_X_place 40 = .ok (.iadd, 1) := by decide +kernel
theorem prd_X_place_41 : decode prb_X_place 41 = .ok (.iaload, 1) := by decide +kernel

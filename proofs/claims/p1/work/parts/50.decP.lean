/-! DECODE ROWS -/
theorem prd_P_feed_0 : decode prb_P_feed 0 = .ok (.aload_n 0, 1) := by decide +kernel
theorem prd_P_feed_1 : decode prb_P_feed 1 = .ok (.getfield 15, 3) := by decide +kernel
theorem prd_P_feed_4 : decode prb_P_feed 4 = .ok (.invokevirtual 51, 3) := by decide +kernel
theorem prd_P_feed_7 : decode prb_P_feed 7 = .ok (.bipush 20, 2) := by decide +kernel
theorem prd_P_feed_9 : decode prb_P_feed 9 = .ok (.iadd, 1) := by decide +kernel
theorem prd_P_feed_10 : decode prb_P_feed 10 = .ok (.sipush 8000, 3) := by decide +kernel
theorem prd_P_feed_13 : decode prb_P_feed 13 = .ok (.if_icmp .le 5, 3) := by decide +kernel
theorem prd_P_feed_18 : decode prb_P_feed 18 = .ok (.aload_n 0, 1) := by decide +kernel
theorem prd_P_feed_19 : decode prb_P_feed 19 = .ok (.getfield 15, 3) := by decide +kernel
theorem prd_P_feed_22 : decode prb_P_feed 22 = .ok (.iload_n 1, 1) := by decide +kernel
theorem prd_P_feed_23 : decode prb_P_feed 23 = .ok (.invokevirtual 55, 3) := by decide +kernel
theorem prd_P_feed_26 : decode prb_P_feed 26 = .ok (.aload_n 0, 1) := by decide +kernel
theorem prd_P_feed_27 : decode prb_P_feed 27 = .ok (.getfield 15, 3) := by decide +kernel
theorem prd_P_feed_30 : decode prb_P_feed 30 = .ok (.iload_n 2, 1) := by decide +kernel
theorem prd_P_feed_31 : decode prb_P_feed 31 = .ok (.invokevirtual 55, 3) := by decide +kernel
theorem prd_P_feed_34 : decode prb_P_feed 34 = .ok (.aload_n 0, 1) := by decide +kernel
theorem prd_P_feed_35 : decode prb_P_feed 35 = .ok (.getfield 15, 3) := by decide +kernel
theorem prd_P_feed_38 : decode prb_P_feed 38 = .ok (.iload_n 3, 1) := by decide +kernel
theorem prd_P_feed_39 : decode prb_P_feed 39 = .ok (.invokevirtual 55, 3) := by decide +kernel
theorem prd_P_feed_42 : decode prb_P_feed 42 = .ok (.aload_n 0, 1) := by decide +kernel
theorem prd_P_feed_43 : decode prb_P_feed 43 = .ok (.getfield 15, 3) := by decide +kernel
theorem prd_P_feed_46 : decode prb_P_feed 46 = .ok (.iload 4, 2) := by decide +kernel
theorem prd_P_feed_48 : decode prb_P_feed 48 = .ok (.invokevirtual 55, 3) := by decide +kernel
theorem prd_P_feed_51 : decode prb_P_feed 51 = .ok (.aload_n 0, 1) := by decide +kernel
theorem prd_P_feed_52 : decode prb_P_feed 52 = .ok (.getfield 15, 3) := by decide +kernel
theorem prd_P_feed_55 : decode prb_P_feed 55 = .ok (.iload 5, 2) := by decide +kernel
theorem prd_P_feed_57 : decode prb_P_feed 57 = .ok (.invokevirtual 55, 3) := by decide +kernel
theorem prd_P_feed_60 : decode prb_P_feed 60 = .ok (.aload_n 0, 1) := by decide +kernel
theorem prd_P_feed_61 : decode prb_P_feed 61 = .ok (.getfield 15, 3) := by decide +kernel
theorem prd_P_feed_64 : decode prb_P_feed 64 = .ok (.invokevirtual 51, 3) := by decide +kernel
theorem prd_P_feed_67 : decode prb_P_feed 67 = .ok (.ireturn, 1) := by decide +kernel
theorem prd_P_feed_16 : decode prb_P_feed 16 = .ok (.iconst (-1), 1) := by decide +kernel
theorem prd_P_feed_17 : decode prb_P_feed 17 = .ok (.ireturn, 1) := by decide +kernel
theorem prd_P_end_0 : decode prb_P_end 0 = .ok (.iload_n 1, 1) := by decide +kernel
theorem prd_P_end_1 : decode prb_P_end 1 = .ok (.ifCond .lt 14, 3) := by decide +kernel
theorem prd_P_end_15 : decode prb_P_end 15 = .ok (.iconst (-1), 1) := by decide +kernel
theorem prd_P_end_16 : decode prb_P_end 16 = .ok (.ireturn, 1) := by decide +kernel
theorem prd_P_end_4 : decode prb_P_end 4 = .ok (.iload_n 1, 1) := by decide +kernel
theorem prd_P_end_5 : decode prb_P_end 5 = .ok (.aload_n 0, 1) := by decide +kernel
theorem prd_P_end_6 : decode prb_P_end 6 = .ok (.getfield 15, 3) := by decide +kernel
theorem prd_P_end_9 : decode prb_P_end 9 = .ok (.invokevirtual 51, 3) := by decide +kernel
theorem prd_P_end_12 : decode prb_P_end 12 = .ok (.if_icmp .le 5, 3) := by decide +kernel
theorem prd_P_end_17 : decode prb_P_end 17 = .ok (.aload_n 0, 1) := by decide +kernel
theorem prd_P_end_18 : decode prb_P_end 18 = .ok (.iconst 1, 1) := by decide +kernel
theorem prd_P_end_19 : decode prb_P_end 19 = .ok (.putfield 59, 3) := by decide +kernel
theorem prd_P_end_22 : decode prb_P_end 22 = .ok (.aload_n 0, 1) := by decide +kernel
theorem prd_P_end_23 : decode prb_P_end 23 = .ok (.iconst 0, 1) := by decide +kernel
theorem prd_P_end_24 : decode prb_P_end 24 = .ok (.putfield 63, 3) := by decide +kernel
theorem prd_P_end_27 : decode prb_P_end 27 = .ok (.aload_n 0, 1) := by decide +kernel
theorem prd_P_end_28 : decode prb_P_end 28 = .ok (.iconst 0, 1) := by decide +kernel
theorem prd_P_end_29 : decode prb_P_end 29 = .ok (.putfield 67, 3) := by decide +kernel
theorem prd_P_end_32 : decode prb_P_end 32 = .ok (.aload_n 0, 1) := by decide +kernel
theorem prd_P_end_33 : decode prb_P_end 33 = .ok (.getfield 47, 3) := by decide +kernel
theorem prd_P_end_36 : decode prb_P_end 36 = .ok (.invokevirtual 70, 3) := by decide +kernel
theorem prd_P_end_39 : decode prb_P_end 39 = .ok (.aload_n 0, 1) := by decide +kernel
theorem prd_P_end_40 : decode prb_P_end 40 = .ok (.getfield 15, 3) := by decide +kernel
theorem prd_P_end_43 : decode prb_P_end 43 = .ok (.iload_n 1, 1) := by decide +kernel
theorem prd_P_end_44 : decode prb_P_end 44 = .ok (.invokevirtual 73, 3) := by decide +kernel
theorem prd_P_end_47 : decode prb_P_end 47 = .ok (.aload_n 0, 1) := by decide +kernel
theorem prd_P_end_48 : decode prb_P_end 48 = .ok (.getfield 24, 3) := by decide +kernel
theorem prd_P_end_51 : decode prb_P_end 51 = .ok (.invokevirtual 76, 3) := by decide +kernel
theorem prd_P_end_54 : decode prb_P_end 54 = .ok (.ifCond .ne 23, 3) := by decide +kernel
theorem prd_P_end_77 : decode prb_P_end 77 = .ok (.aload_n 0, 1) := by decide +kernel
theorem prd_P_end_78 : decode prb_P_end 78 = .ok (.getfield 40, 3) := by decide +kernel
theorem prd_P_end_81 : decode prb_P_end 81 = .ok (.invokevirtual 85, 3) := by decide +kernel
theorem prd_P_end_84 : decode prb_P_end 84 = .ok (.ifCond .ne 34, 3) := by decide +kernel
theorem prd_P_end_118 : decode prb_P_end 118 = .ok (.iconst 0, 1) := by decide +kernel
theorem prd_P_end_119 : decode prb_P_end 119 = .ok (.ireturn, 1) := by decide +kernel
theorem prd_P_end_87 : decode prb_P_end 87 = .ok (.aload_n 0, 1) := by decide +kernel
theorem prd_P_end_88 : decode prb_P_end 88 = .ok (.aload_n 0, 1) := by decide +kernel
theorem prd_P_end_89 : decode prb_P_end 89 = .ok (.getfield 40, 3) := by decide +kernel
theorem prd_P_end_92 : decode prb_P_end 92 = .ok (.invokevirtual 88, 3) := by decide +kernel
theorem prd_P_end_95 : decode prb_P_end 95 = .ok (.putfield 63, 3) := by decide +kernel
theorem prd_P_end_98 : decode prb_P_end 98 = .ok (.aload_n 0, 1) := by decide +kernel
theorem prd_P_end_99 : decode prb_P_end 99 = .ok (.aload_n 0, 1) := by decide +kernel
theorem prd_P_end_100 : decode prb_P_end 100 = .ok (.getfield 40, 3) := by decide +kernel
theorem prd_P_end_103 : decode prb_P_end 103 = .ok (.invokevirtual 91, 3) := by decide +kernel
theorem prd_P_end_106 : decode prb_P_end 106 = .ok (.putfield 67, 3) := by decide +kernel
theorem prd_P_end_109 : decode prb_P_end 109 = .ok (.aload_n 0, 1) := by decide +kernel
theorem prd_P_end_110 : decode prb_P_end 110 = .ok (.getfield 31, 3) := by decide +kernel
theorem prd_P_end_113 : decode prb_P_end 113 = .ok (.invokevirtual 82, 3) := by decide +kernel
theorem prd_P_end_116 : decode prb_P_end 116 = .ok (.iconst 2, 1) := by decide +kernel
theorem prd_P_end_117 : decode prb_P_end 117 = .ok (.ireturn, 1) := by decide +kernel
theorem prd_P_end_57 : decode prb_P_end 57 = .ok (.aload_n 0, 1) := by decide +kernel
theorem prd_P_end_58 : decode prb_P_end 58 = .ok (.aload_n 0, 1) := by decide +kernel
theorem prd_P_end_59 : decode prb_P_end 59 = .ok (.getfield 24, 3) := by decide +kernel
theorem prd_P_end_62 : decode prb_P_end 62 = .ok (.invokevirtual 79, 3) := by decide +kernel
theorem prd_P_end_65 : decode prb_P_end 65 = .ok (.putfield 67, 3) := by decide +kernel
theorem prd_P_end_68 : decode prb_P_end 68 = .ok (.aload_n 0, 1) := by decide +kernel
theorem prd_P_end_69 : decode prb_P_end 69 = .ok (.getfield 31, 3) := by decide +kernel
theorem prd_P_end_72 : decode prb_P_end 72 = .ok (.invokevirtual 82, 3) := by decide +kernel
theorem prd_P_end_75 : decode prb_P_end 75 = .ok (.iconst 1, 1) := by decide +kernel
theorem prd_P_end_76 : decode prb_P_end 76 = .ok (.ireturn, 1) := by decide +kernel
theorem prd_P_told_0 : decode prb_P_told 0 = .ok (.aload_n 0, 1) := by decide +kernel
theorem prd_P_told_1 : decode prb_P_told 1 = .ok (.getfield 59, 3) := by decide +kernel
theorem prd_P_told_4 : decode prb_P_told 4 = .ok (.ifCond .eq 12, 3) := by decide +kernel
theorem prd_P_told_16 : decode prb_P_told 16 = .ok (.iconst (-1), 1) := by decide +kernel
theorem prd_P_told_17 : decode prb_P_told 17 = .ok (.ireturn, 1) := by decide +kernel
theorem prd_P_told_7 : decode prb_P_told 7 = .ok (.iload_n 1, 1) := by decide +kernel
theorem prd_P_told_8 : decode prb_P_told 8 = .ok (.ifCond .lt 8, 3) := by decide +kernel
theorem prd_P_told_11 : decode prb_P_told 11 = .ok (.iload_n 1, 1) := by decide +kernel
theorem prd_P_told_12 : decode prb_P_told 12 = .ok (.iconst 1, 1) := by decide +kernel
theorem prd_P_told_13 : decode prb_P_told 13 = .ok (.if_icmp .le 5, 3) := by decide +kernel
theorem prd_P_told_18 : decode prb_P_told 18 = .ok (.iload_n 1, 1) := by decide +kernel
theorem prd_P_told_19 : decode prb_P_told 19 = .ok (.ifCond .ne 10, 3) := by decide +kernel
theorem prd_P_told_29 : decode prb_P_told 29 = .ok (.aload_n 0, 1) := by decide +kernel
theorem prd_P_told_30 : decode prb_P_told 30 = .ok (.getfield 67, 3) := by decide +kernel
theorem prd_P_told_33 : decode prb_P_told 33 = .ok (.ireturn, 1) := by decide +kernel
theorem prd_P_told_22 : decode prb_P_told 22 = .ok (.aload_n 0, 1) := by decide +kernel
theorem prd_P_told_23 : decode prb_P_told 23 = .ok (.getfield 63, 3) := by decide +kernel
theorem prd_P_told_26 : decode prb_P_told 26 = .ok (.goto 7, 3) := by decide +kernel
theorem prd_P_points_0 : decode prb_P_points 0 = .ok (.aload_n 0, 1) := by decide +kernel
theorem prd_P_points_1 : decode prb_P_points 1 = .ok (.getfield 31, 3) := by decide +kernel
theorem prd_P_points_4 : decode prb_P_points 4 = .ok (.invokevirtual 94, 3) := by decide +kernel
theorem prd_P_points_7 : decode prb_P_points 7 = .ok (.ireturn, 1) := by decide +kernel
theorem prd_P_point_0 : decode prb_P_point 0 = .ok (.iload_n 1, 1) := by decide +kernel
theorem prd_P_point_1 : decode prb_P_point 1 = .ok (.ifCond .lt 14, 3) := by decide +kernel
theorem prd_P_point_15 : decode prb_P_point 15 = .ok (.iconst (-1), 1) := by decide +kernel
theorem prd_P_point_16 : decode prb_P_point 16 = .ok (.ireturn, 1) := by decide +kernel
theorem prd_P_point_4 : decode prb_P_point 4 = .ok (.iload_n 1, 1) := by decide +kernel
theorem prd_P_point_5 : decode prb_P_point 5 = .ok (.aload_n 0, 1) := by decide +kernel
theorem prd_P_point_6 : decode prb_P_point 6 = .ok (.getfield 31, 3) := by decide +kernel
theorem prd_P_point_9 : decode prb_P_point 9 = .ok (.invokevirtual 94, 3) := by decide +kernel
theorem prd_P_point_12 : decode prb_P_point 12 = .ok (.if_icmp .lt 5, 3) := by decide +kernel
theorem prd_P_point_17 : decode prb_P_point 17 = .ok (.iload_n 2, 1) := by decide +kernel
theorem prd_P_point_18 : decode prb_P_point 18 = .ok (.tableswitch 79 0 4 #[34, 43, 52, 61, 70], 34) := by decide +kernel
theorem prd_P_point_52 : decode prb_P_point 52 = .ok (.aload_n 0, 1) := by decide +kernel
theorem prd_P_point_53 : decode prb_P_point 53 = .ok (.getfield 31, 3) := by decide +kernel
theorem prd_P_point_56 : decode prb_P_point 56 = .ok (.iload_n 1, 1) := by decide +kernel
theorem prd_P_point_57 : decode prb_P_point 57 = .ok (.invokevirtual 97, 3) := by decide +kernel
theorem prd_P_point_60 : decode prb_P_point 60 = .ok (.ireturn, 1) := by decide +kernel
theorem prd_P_point_61 : decode prb_P_point 61 = .ok (.aload_n 0, 1) := by decide +kernel
theorem prd_P_point_62 : decode prb_P_point 62 = .ok (.getfield 31, 3) := by decide +kernel
theorem prd_P_point_65 : decode prb_P_point 65 = .ok (.iload_n 1, 1) := by decide +kernel
theorem prd_P_point_66 : decode prb_P_point 66 = .ok (.invokevirtual 101, 3) := by decide +kernel
theorem prd_P_point_69 : decode prb_P_point 69 = .ok (.ireturn, 1) := by decide +kernel
theorem prd_P_point_70 : decode prb_P_point 70 = .ok (.aload_n 0, 1) := by decide +kernel
theorem prd_P_point_71 : decode prb_P_point 71 = .ok (.getfield 31, 3) := by decide +kernel
theorem prd_P_point_74 : decode prb_P_point 74 = .ok (.iload_n 1, 1) := by decide +kernel
theorem prd_P_point_75 : decode prb_P_point 75 = .ok (.invokevirtual 104, 3) := by decide +kernel
theorem prd_P_point_78 : decode prb_P_point 78 = .ok (.ireturn, 1) := by decide +kernel
theorem prd_P_point_79 : decode prb_P_point 79 = .ok (.aload_n 0, 1) := by decide +kernel
theorem prd_P_point_80 : decode prb_P_point 80 = .ok (.getfield 31, 3) := by decide +kernel
theorem prd_P_point_83 : decode prb_P_point 83 = .ok (.iload_n 1, 1) := by decide +kernel
theorem prd_P_point_84 : decode prb_P_point 84 = .ok (.invokevirtual 107, 3) := by decide +kernel
theorem prd_P_point_87 : decode prb_P_point 87 = .ok (.ireturn, 1) := by decide +kernel
theorem prd_P_point_88 : decode prb_P_point 88 = .ok (.aload_n 0, 1) := by decide +kernel
theorem prd_P_point_89 : decode prb_P_point 89 = .ok (.getfield 31, 3) := by decide +kernel
theorem prd_P_point_92 : decode prb_P_point 92 = .ok (.iload_n 1, 1) := by decide +kernel
theorem prd_P_point_93 : decode prb_P_point 93 = .ok (.invokevirtual 110, 3) := by decide +kernel
theorem prd_P_point_96 : decode prb_P_point 96 = .ok (.ireturn, 1) := by decide +kernel
theorem prd_P_point_97 : decode prb_P_point 97 = .ok (.iconst (-1), 1) := by decide +kernel
theorem prd_P_point_98 : decode prb_P_point 98 = .ok (.ireturn, 1) := by decide +kernel
theorem prd_P_input_0 : decode prb_P_input 0 = .ok (.aload_n 0, 1) := by decide +kernel
theorem prd_P_input_1 : decode prb_P_input 1 = .ok (.getfield 47, 3) := by decide +kernel
theorem prd_P_input_4 : decode prb_P_input 4 = .ok (.iload_n 1, 1) := by decide +kernel
theorem prd_P_input_5 : decode prb_P_input 5 = .ok (.invokevirtual 113, 3) := by decide +kernel
theorem prd_P_input_8 : decode prb_P_input 8 = .ok (.ireturn, 1) := by decide +kernel
theorem prd_P_drop_0 : decode prb_P_drop 0 = .ok (.aload_n 0, 1) := by decide +kernel
theorem prd_P_drop_1 : decode prb_P_drop 1 = .ok (.getfield 47, 3) := by decide +kernel
theorem prd_P_drop_4 : decode prb_P_drop 4 = .ok (.invokevirtual 116, 3) := by decide +kernel
theorem prd_P_drop_7 : decode prb_P_drop 7 = .ok (.ireturn, 1) := by decide +kernel
theorem prd_P_run_0 : decode prb_P_run 0 = .ok (.iload_n 1, 1) := by decide +kernel
theorem prd_P_run_1 : decode prb_P_run 1 = .ok (.ifCond .lt 10, 3) := by decide +kernel
theorem prd_P_run_11 : decode prb_P_run 11 = .ok (.iconst (-1), 1) := by decide +kernel
theorem prd_P_run_12 : decode prb_P_run 12 = .ok (.ireturn, 1) := by decide +kernel
theorem prd_P_run_4 : decode prb_P_run 4 = .ok (.iload_n 1, 1) := by decide +kernel
theorem prd_P_run_5 : decode prb_P_run 5 = .ok (.sipush 2000, 3) := by decide +kernel
theorem prd_P_run_8 : decode prb_P_run 8 = .ok (.if_icmp .le 5, 3) := by decide +kernel
theorem prd_P_run_13 : decode prb_P_run 13 = .ok (.aload_n 0, 1) := by decide +kernel
theorem prd_P_run_14 : decode prb_P_run 14 = .ok (.getfield 47, 3) := by decide +kernel
theorem prd_P_run_17 : decode prb_P_run 17 = .ok (.iload_n 1, 1) := by decide +kernel
theorem prd_P_run_18 : decode prb_P_run 18 = .ok (.invokevirtual 119, 3) := by decide +kernel
theorem prd_P_run_21 : decode prb_P_run 21 = .ok (.ireturn, 1) := by decide +kernel
theorem prd_P_ran_0 : decode prb_P_ran 0 = .ok (.iload_n 1, 1) := by decide +kernel
theorem prd_P_ran_1 : decode prb_P_ran 1 = .ok (.tableswitch 51 0 2 #[27, 35, 43], 27) := by decide +kernel
theorem prd_P_ran_28 : decode prb_P_ran 28 = .ok (.aload_n 0, 1) := by decide +kernel
theorem prd_P_ran_29 : decode prb_P_ran 29 = .ok (.getfield 47, 3) := by decide +kernel
theorem prd_P_ran_32 : decode prb_P_ran 32 = .ok (.invokevirtual 122, 3) := by decide +kernel
theorem prd_P_ran_35 : decode prb_P_ran 35 = .ok (.ireturn, 1) := by decide +kernel
theorem prd_P_ran_36 : decode prb_P_ran 36 = .ok (.aload_n 0, 1) := by decide +kernel
theorem prd_P_ran_37 : decode prb_P_ran 37 = .ok (.getfield 47, 3) := by decide +kernel
theorem prd_P_ran_40 : decode prb_P_ran 40 = .ok (.invokevirtual 125, 3) := by decide +kernel
theorem prd_P_ran_43 : decode prb_P_ran 43 = .ok (.ireturn, 1) := by decide +kernel
theorem prd_P_ran_44 : decode prb_P_ran 44 = .ok (.aload_n 0, 1) := by decide +kernel
theorem prd_P_ran_45 : decode prb_P_ran 45 = .ok (.getfield 47, 3) := by decide +kernel
theorem prd_P_ran_48 : decode prb_P_ran 48 = .ok (.invokevirtual 128, 3) := by decide +kernel
theorem prd_P_ran_51 : decode prb_P_ran 51 = .ok (.ireturn, 1) := by decide +kernel
theorem prd_P_ran_52 : decode prb_P_ran 52 = .ok (.iconst (-1), 1) := by decide +kernel
theorem prd_P_ran_53 : decode prb_P_ran 53 = .ok (.ireturn, 1) := by decide +kernel
theorem prd_P_value_0 : decode prb_P_value 0 = .ok (.aload_n 0, 1) := by decide +kernel
theorem prd_P_value_1 : decode prb_P_value 1 = .ok (.getfield 47, 3) := by decide +kernel
theorem prd_P_value_4 : decode prb_P_value 4 = .ok (.iload_n 1, 1) := by decide +kernel
theorem prd_P_value_5 : decode prb_P_value 5 = .ok (.invokevirtual 131, 3) := by decide +kernel
theorem prd_P_value_8 : decode prb_P_value 8 = .ok (.ireturn, 1) := by decide +kernel
theorem prd_P_place_0 : decode prb_P_place 0 = .ok (.aload_n 0, 1) := by decide +kernel
theorem prd_P_place_1 : decode prb_P_place 1 = .ok (.getfield 47, 3) := by decide +kernel
theorem prd_P_place_4 : decode prb_P_place 4 = .ok (.iload_n 1, 1) := by decide +kernel
theorem prd_P_place_5 : decode prb_P_place 5 = .ok (.iload_n 2, 1) := by decide +kernel
theorem prd_P_place_6 : decode prb_P_place 6 = .ok (.invokevirtual 134, 3) := by decide +kernel
theorem prd_P_place_9 : decode prb_P_place 9 = .ok (.ireturn, 1) := by decide +kernel

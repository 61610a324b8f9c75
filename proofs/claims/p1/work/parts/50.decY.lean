/-! DECODE ROWS -/
theorem prd_Y_isWrong_0 : decode prb_Y_isWrong 0 = .ok (.aload_n 0, 1) := by decide +kernel
theorem prd_Y_isWrong_1 : decode prb_Y_isWrong 1 = .ok (.iload_n 1, 1) := by decide +kernel
theorem prd_Y_isWrong_2 : decode prb_Y_isWrong 2 = .ok (.putfield 48, 3) := by decide +kernel
theorem prd_Y_isWrong_5 : decode prb_Y_isWrong 5 = .ok (.aload_n 0, 1) := by decide +kernel
theorem prd_Y_isWrong_6 : decode prb_Y_isWrong 6 = .ok (.aload_n 0, 1) := by decide +kernel
theorem prd_Y_isWrong_7 : decode prb_Y_isWrong 7 = .ok (.getfield 27, 3) := by decide +kernel
theorem prd_Y_isWrong_10 : decode prb_Y_isWrong 10 = .ok (.iload_n 2, 1) := by decide +kernel
theorem prd_Y_isWrong_11 : decode prb_Y_isWrong 11 = .ok (.invokevirtual 106, 3) := by decide +kernel
theorem prd_Y_isWrong_14 : decode prb_Y_isWrong 14 = .ok (.putfield 52, 3) := by decide +kernel
theorem prd_Y_isWrong_17 : decode prb_Y_isWrong 17 = .ok (.iconst 0, 1) := by decide +kernel
theorem prd_Y_isWrong_18 : decode prb_Y_isWrong 18 = .ok (.ireturn, 1) := by decide +kernel
theorem prd_Y_openBlock_0 : decode prb_Y_openBlock 0 = .ok (.aload_n 0, 1) := by decide +kernel
theorem prd_Y_openBlock_1 : decode prb_Y_openBlock 1 = .ok (.getfield 64, 3) := by decide +kernel
theorem prd_Y_openBlock_4 : decode prb_Y_openBlock 4 = .ok (.ifCond .lt 15, 3) := by decide +kernel
theorem prd_Y_openBlock_19 : decode prb_Y_openBlock 19 = .ok (.return_, 1) := by decide +kernel
theorem prd_Y_openBlock_7 : decode prb_Y_openBlock 7 = .ok (.aload_n 0, 1) := by decide +kernel
theorem prd_Y_openBlock_8 : decode prb_Y_openBlock 8 = .ok (.getfield 64, 3) := by decide +kernel
theorem prd_Y_openBlock_11 : decode prb_Y_openBlock 11 = .ok (.aload_n 0, 1) := by decide +kernel
theorem prd_Y_openBlock_12 : decode prb_Y_openBlock 12 = .ok (.getfield 21, 3) := by decide +kernel
theorem prd_Y_openBlock_15 : decode prb_Y_openBlock 15 = .ok (.arraylength, 1) := by decide +kernel
theorem prd_Y_openBlock_16 : decode prb_Y_openBlock 16 = .ok (.if_icmp .lt 4, 3) := by decide +kernel
theorem prd_Y_openBlock_20 : decode prb_Y_openBlock 20 = .ok (.aload_n 0, 1) := by decide +kernel
theorem prd_Y_openBlock_21 : decode prb_Y_openBlock 21 = .ok (.getfield 21, 3) := by decide +kernel
theorem prd_Y_openBlock_24 : decode prb_Y_openBlock 24 = .ok (.aload_n 0, 1) := by decide +kernel
theorem prd_Y_openBlock_25 : decode prb_Y_openBlock 25 = .ok (.getfield 64, 3) := by decide +kernel
theorem prd_Y_openBlock_28 : decode prb_Y_openBlock 28 = .ok (.iload_n 1, 1) := by decide +kernel
theorem prd_Y_openBlock_29 : decode prb_Y_openBlock 29 = .ok (.iastore, 1) := by decide +kernel
theorem prd_Y_openBlock_30 : decode prb_Y_openBlock 30 = .ok (.aload_n 0, 1) := by decide +kernel
theorem prd_Y_openBlock_31 : decode prb_Y_openBlock 31 = .ok (.getfield 24, 3) := by decide +kernel
theorem prd_Y_openBlock_34 : decode prb_Y_openBlock 34 = .ok (.aload_n 0, 1) := by decide +kernel
theorem prd_Y_openBlock_35 : decode prb_Y_openBlock 35 = .ok (.getfield 64, 3) := by decide +kernel
theorem prd_Y_openBlock_38 : decode prb_Y_openBlock 38 = .ok (.iload_n 2, 1) := by decide +kernel
theorem prd_Y_openBlock_39 : decode prb_Y_openBlock 39 = .ok (.iastore, 1) := by decide +kernel
theorem prd_Y_openBlock_40 : decode prb_Y_openBlock 40 = .ok (.aload_n 0, 1) := by decide +kernel
theorem prd_Y_openBlock_41 : decode prb_Y_openBlock 41 = .ok (.getfield 9, 3) := by decide +kernel
theorem prd_Y_openBlock_44 : decode prb_Y_openBlock 44 = .ok (.aload_n 0, 1) := by decide +kernel
theorem prd_Y_openBlock_45 : decode prb_Y_openBlock 45 = .ok (.getfield 64, 3) := by decide +kernel
theorem prd_Y_openBlock_48 : decode prb_Y_openBlock 48 = .ok (.iload_n 3, 1) := by decide +kernel
theorem prd_Y_openBlock_49 : decode prb_Y_openBlock 49 = .ok (.iastore, 1) := by decide +kernel
theorem prd_Y_openBlock_50 : decode prb_Y_openBlock 50 = .ok (.aload_n 0, 1) := by decide +kernel
theorem prd_Y_openBlock_51 : decode prb_Y_openBlock 51 = .ok (.getfield 15, 3) := by decide +kernel
theorem prd_Y_openBlock_54 : decode prb_Y_openBlock 54 = .ok (.aload_n 0, 1) := by decide +kernel
theorem prd_Y_openBlock_55 : decode prb_Y_openBlock 55 = .ok (.getfield 64, 3) := by decide +kernel
theorem prd_Y_openBlock_58 : decode prb_Y_openBlock 58 = .ok (.iload 4, 2) := by decide +kernel
theorem prd_Y_openBlock_60 : decode prb_Y_openBlock 60 = .ok (.iastore, 1) := by decide +kernel
theorem prd_Y_openBlock_61 : decode prb_Y_openBlock 61 = .ok (.aload_n 0, 1) := by decide +kernel
theorem prd_Y_openBlock_62 : decode prb_Y_openBlock 62 = .ok (.getfield 18, 3) := by decide +kernel
theorem prd_Y_openBlock_65 : decode prb_Y_openBlock 65 = .ok (.aload_n 0, 1) := by decide +kernel
theorem prd_Y_openBlock_66 : decode prb_Y_openBlock 66 = .ok (.getfield 64, 3) := by decide +kernel
theorem prd_Y_openBlock_69 : decode prb_Y_openBlock 69 = .ok (.iload 5, 2) := by decide +kernel
theorem prd_Y_openBlock_71 : decode prb_Y_openBlock 71 = .ok (.iastore, 1) := by decide +kernel
theorem prd_Y_openBlock_72 : decode prb_Y_openBlock 72 = .ok (.aload_n 0, 1) := by decide +kernel
theorem prd_Y_openBlock_73 : decode prb_Y_openBlock 73 = .ok (.dup, 1) := by decide +kernel
theorem prd_Y_openBlock_74 : decode prb_Y_openBlock 74 = .ok (.getfield 64, 3) := by decide +kernel
theorem prd_Y_openBlock_77 : decode prb_Y_openBlock 77 = .ok (.iconst 1, 1) := by decide +kernel
theorem prd_Y_openBlock_78 : decode prb_Y_openBlock 78 = .ok (.iadd, 1) := by decide +kernel
theorem prd_Y_openBlock_79 : decode prb_Y_openBlock 79 = .ok (.putfield 64, 3) := by decide +kernel
theorem prd_Y_openBlock_82 : decode prb_Y_openBlock 82 = .ok (.iload_n 3, 1) := by decide +kernel
theorem prd_Y_openBlock_83 : decode prb_Y_openBlock 83 = .ok (.iload 4, 2) := by decide +kernel
theorem prd_Y_openBlock_85 : decode prb_Y_openBlock 85 = .ok (.if_icmp .ge 11, 3) := by decide +kernel
theorem prd_Y_openBlock_96 : decode prb_Y_openBlock 96 = .ok (.return_, 1) := by decide +kernel
theorem prd_Y_openBlock_88 : decode prb_Y_openBlock 88 = .ok (.aload_n 0, 1) := by decide +kernel
theorem prd_Y_openBlock_89 : decode prb_Y_openBlock 89 = .ok (.getfield 35, 3) := by decide +kernel
theorem prd_Y_openBlock_92 : decode prb_Y_openBlock 92 = .ok (.iload_n 1, 1) := by decide +kernel
theorem prd_Y_openBlock_93 : decode prb_Y_openBlock 93 = .ok (.invokevirtual 143, 3) := by decide +kernel
theorem prd_Y_openFunction_0 : decode prb_Y_openFunction 0 = .ok (.aload_n 0, 1) := by decide +kernel
theorem prd_Y_openFunction_1 : decode prb_Y_openFunction 1 = .ok (.iload_n 2, 1) := by decide +kernel
theorem prd_Y_openFunction_2 : decode prb_Y_openFunction 2 = .ok (.iload_n 1, 1) := by decide +kernel
theorem prd_Y_openFunction_3 : decode prb_Y_openFunction 3 = .ok (.aload_n 0, 1) := by decide +kernel
theorem prd_Y_openFunction_4 : decode prb_Y_openFunction 4 = .ok (.getfield 31, 3) := by decide +kernel
theorem prd_Y_openFunction_7 : decode prb_Y_openFunction 7 = .ok (.iload_n 1, 1) := by decide +kernel
theorem prd_Y_openFunction_8 : decode prb_Y_openFunction 8 = .ok (.invokevirtual 133, 3) := by decide +kernel
theorem prd_Y_openFunction_11 : decode prb_Y_openFunction 11 = .ok (.aload_n 0, 1) := by decide +kernel
theorem prd_Y_openFunction_12 : decode prb_Y_openFunction 12 = .ok (.getfield 31, 3) := by decide +kernel
theorem prd_Y_openFunction_15 : decode prb_Y_openFunction 15 = .ok (.iload_n 1, 1) := by decide +kernel
theorem prd_Y_openFunction_16 : decode prb_Y_openFunction 16 = .ok (.invokevirtual 136, 3) := by decide +kernel
theorem prd_Y_openFunction_19 : decode prb_Y_openFunction 19 = .ok (.aload_n 0, 1) := by decide +kernel
theorem prd_Y_openFunction_20 : decode prb_Y_openFunction 20 = .ok (.getfield 31, 3) := by decide +kernel
theorem prd_Y_openFunction_23 : decode prb_Y_openFunction 23 = .ok (.iload_n 1, 1) := by decide +kernel
theorem prd_Y_openFunction_24 : decode prb_Y_openFunction 24 = .ok (.invokevirtual 136, 3) := by decide +kernel
theorem prd_Y_openFunction_27 : decode prb_Y_openFunction 27 = .ok (.invokevirtual 139, 3) := by decide +kernel
theorem prd_Y_openFunction_30 : decode prb_Y_openFunction 30 = .ok (.return_, 1) := by decide +kernel
theorem prd_Y_isOpen_0 : decode prb_Y_isOpen 0 = .ok (.aload_n 0, 1) := by decide +kernel
theorem prd_Y_isOpen_1 : decode prb_Y_isOpen 1 = .ok (.getfield 86, 3) := by decide +kernel
theorem prd_Y_isOpen_4 : decode prb_Y_isOpen 4 = .ok (.ifCond .lt 30, 3) := by decide +kernel
theorem prd_Y_isOpen_34 : decode prb_Y_isOpen 34 = .ok (.iconst 0, 1) := by decide +kernel
theorem prd_Y_isOpen_35 : decode prb_Y_isOpen 35 = .ok (.ireturn, 1) := by decide +kernel
theorem prd_Y_isOpen_7 : decode prb_Y_isOpen 7 = .ok (.aload_n 0, 1) := by decide +kernel
theorem prd_Y_isOpen_8 : decode prb_Y_isOpen 8 = .ok (.getfield 86, 3) := by decide +kernel
theorem prd_Y_isOpen_11 : decode prb_Y_isOpen 11 = .ok (.aload_n 0, 1) := by decide +kernel
theorem prd_Y_isOpen_12 : decode prb_Y_isOpen 12 = .ok (.getfield 64, 3) := by decide +kernel
theorem prd_Y_isOpen_15 : decode prb_Y_isOpen 15 = .ok (.if_icmp .ge 19, 3) := by decide +kernel
theorem prd_Y_isOpen_18 : decode prb_Y_isOpen 18 = .ok (.aload_n 0, 1) := by decide +kernel
theorem prd_Y_isOpen_19 : decode prb_Y_isOpen 19 = .ok (.getfield 86, 3) := by decide +kernel
theorem prd_Y_isOpen_22 : decode prb_Y_isOpen 22 = .ok (.aload_n 0, 1) := by decide +kernel
theorem prd_Y_isOpen_23 : decode prb_Y_isOpen 23 = .ok (.getfield 21, 3) := by decide +kernel
theorem prd_Y_isOpen_26 : decode prb_Y_isOpen 26 = .ok (.arraylength, 1) := by decide +kernel
theorem prd_Y_isOpen_27 : decode prb_Y_isOpen 27 = .ok (.if_icmp .ge 7, 3) := by decide +kernel
theorem prd_Y_isOpen_30 : decode prb_Y_isOpen 30 = .ok (.iconst 1, 1) := by decide +kernel
theorem prd_Y_isOpen_31 : decode prb_Y_isOpen 31 = .ok (.goto 4, 3) := by decide +kernel
theorem prd_Y_takeStatement_0 : decode prb_Y_takeStatement 0 = .ok (.aload_n 0, 1) := by decide +kernel
theorem prd_Y_takeStatement_1 : decode prb_Y_takeStatement 1 = .ok (.invokevirtual 111, 3) := by decide +kernel
theorem prd_Y_takeStatement_4 : decode prb_Y_takeStatement 4 = .ok (.ifCond .eq 24, 3) := by decide +kernel
theorem prd_Y_takeStatement_28 : decode prb_Y_takeStatement 28 = .ok (.iconst (-1), 1) := by decide +kernel
theorem prd_Y_takeStatement_29 : decode prb_Y_takeStatement 29 = .ok (.ireturn, 1) := by decide +kernel
theorem prd_Y_takeStatement_7 : decode prb_Y_takeStatement 7 = .ok (.aload_n 0, 1) := by decide +kernel
theorem prd_Y_takeStatement_8 : decode prb_Y_takeStatement 8 = .ok (.getfield 9, 3) := by decide +kernel
theorem prd_Y_takeStatement_11 : decode prb_Y_takeStatement 11 = .ok (.aload_n 0, 1) := by decide +kernel
theorem prd_Y_takeStatement_12 : decode prb_Y_takeStatement 12 = .ok (.getfield 86, 3) := by decide +kernel
theorem prd_Y_takeStatement_15 : decode prb_Y_takeStatement 15 = .ok (.iaload, 1) := by decide +kernel
theorem prd_Y_takeStatement_16 : decode prb_Y_takeStatement 16 = .ok (.aload_n 0, 1) := by decide +kernel
theorem prd_Y_takeStatement_17 : decode prb_Y_takeStatement 17 = .ok (.getfield 15, 3) := by decide +kernel
theorem prd_Y_takeStatement_20 : decode prb_Y_takeStatement 20 = .ok (.aload_n 0, 1) := by decide +kernel
theorem prd_Y_takeStatement_21 : decode prb_Y_takeStatement 21 = .ok (.getfield 86, 3) := by decide +kernel
theorem prd_Y_takeStatement_24 : decode prb_Y_takeStatement 24 = .ok (.iaload, 1) := by decide +kernel
theorem prd_Y_takeStatement_25 : decode prb_Y_takeStatement 25 = .ok (.if_icmp .lt 5, 3) := by decide +kernel
theorem prd_Y_takeStatement_30 : decode prb_Y_takeStatement 30 = .ok (.aload_n 0, 1) := by decide +kernel
theorem prd_Y_takeStatement_31 : decode prb_Y_takeStatement 31 = .ok (.getfield 9, 3) := by decide +kernel
theorem prd_Y_takeStatement_34 : decode prb_Y_takeStatement 34 = .ok (.aload_n 0, 1) := by decide +kernel
theorem prd_Y_takeStatement_35 : decode prb_Y_takeStatement 35 = .ok (.getfield 86, 3) := by decide +kernel
theorem prd_Y_takeStatement_38 : decode prb_Y_takeStatement 38 = .ok (.iaload, 1) := by decide +kernel
theorem prd_Y_takeStatement_39 : decode prb_Y_takeStatement 39 = .ok (.istore_n 1, 1) := by decide +kernel
theorem prd_Y_takeStatement_40 : decode prb_Y_takeStatement 40 = .ok (.aload_n 0, 1) := by decide +kernel
theorem prd_Y_takeStatement_41 : decode prb_Y_takeStatement 41 = .ok (.getfield 9, 3) := by decide +kernel
theorem prd_Y_takeStatement_44 : decode prb_Y_takeStatement 44 = .ok (.aload_n 0, 1) := by decide +kernel
theorem prd_Y_takeStatement_45 : decode prb_Y_takeStatement 45 = .ok (.getfield 86, 3) := by decide +kernel
theorem prd_Y_takeStatement_48 : decode prb_Y_takeStatement 48 = .ok (.aload_n 0, 1) := by decide +kernel
theorem prd_Y_takeStatement_49 : decode prb_Y_takeStatement 49 = .ok (.getfield 31, 3) := by decide +kernel
theorem prd_Y_takeStatement_52 : decode prb_Y_takeStatement 52 = .ok (.iload_n 1, 1) := by decide +kernel
theorem prd_Y_takeStatement_53 : decode prb_Y_takeStatement 53 = .ok (.invokevirtual 115, 3) := by decide +kernel
theorem prd_Y_takeStatement_56 : decode prb_Y_takeStatement 56 = .ok (.iastore, 1) := by decide +kernel
theorem prd_Y_takeStatement_57 : decode prb_Y_takeStatement 57 = .ok (.iload_n 1, 1) := by decide +kernel
theorem prd_Y_takeStatement_58 : decode prb_Y_takeStatement 58 = .ok (.ireturn, 1) := by decide +kernel
theorem prd_Y_parent_0 : decode prb_Y_parent 0 = .ok (.aload_n 0, 1) := by decide +kernel
theorem prd_Y_parent_1 : decode prb_Y_parent 1 = .ok (.invokevirtual 111, 3) := by decide +kernel
theorem prd_Y_parent_4 : decode prb_Y_parent 4 = .ok (.ifCond .eq 15, 3) := by decide +kernel
theorem prd_Y_parent_19 : decode prb_Y_parent 19 = .ok (.iconst (-1), 1) := by decide +kernel
theorem prd_Y_parent_20 : decode prb_Y_parent 20 = .ok (.ireturn, 1) := by decide +kernel
theorem prd_Y_parent_7 : decode prb_Y_parent 7 = .ok (.aload_n 0, 1) := by decide +kernel
theorem prd_Y_parent_8 : decode prb_Y_parent 8 = .ok (.getfield 21, 3) := by decide +kernel
theorem prd_Y_parent_11 : decode prb_Y_parent 11 = .ok (.aload_n 0, 1) := by decide +kernel
theorem prd_Y_parent_12 : decode prb_Y_parent 12 = .ok (.getfield 86, 3) := by decide +kernel
theorem prd_Y_parent_15 : decode prb_Y_parent 15 = .ok (.iaload, 1) := by decide +kernel
theorem prd_Y_parent_16 : decode prb_Y_parent 16 = .ok (.goto 4, 3) := by decide +kernel
theorem prd_Y_endBlock_0 : decode prb_Y_endBlock 0 = .ok (.aload_n 0, 1) := by decide +kernel
theorem prd_Y_endBlock_1 : decode prb_Y_endBlock 1 = .ok (.invokevirtual 118, 3) := by decide +kernel
theorem prd_Y_endBlock_4 : decode prb_Y_endBlock 4 = .ok (.istore_n 1, 1) := by decide +kernel
theorem prd_Y_endBlock_5 : decode prb_Y_endBlock 5 = .ok (.aload_n 0, 1) := by decide +kernel
theorem prd_Y_endBlock_6 : decode prb_Y_endBlock 6 = .ok (.getfield 44, 3) := by decide +kernel
theorem prd_Y_endBlock_9 : decode prb_Y_endBlock 9 = .ok (.aload_n 0, 1) := by decide +kernel
theorem prd_Y_endBlock_10 : decode prb_Y_endBlock 10 = .ok (.getfield 35, 3) := by decide +kernel
theorem prd_Y_endBlock_13 : decode prb_Y_endBlock 13 = .ok (.iload_n 1, 1) := by decide +kernel
theorem prd_Y_endBlock_14 : decode prb_Y_endBlock 14 = .ok (.invokevirtual 121, 3) := by decide +kernel
theorem prd_Y_endBlock_17 : decode prb_Y_endBlock 17 = .ok (.aload_n 0, 1) := by decide +kernel
theorem prd_Y_endBlock_18 : decode prb_Y_endBlock 18 = .ok (.getfield 35, 3) := by decide +kernel
theorem prd_Y_endBlock_21 : decode prb_Y_endBlock 21 = .ok (.iload_n 1, 1) := by decide +kernel
theorem prd_Y_endBlock_22 : decode prb_Y_endBlock 22 = .ok (.invokevirtual 124, 3) := by decide +kernel
theorem prd_Y_endBlock_25 : decode prb_Y_endBlock 25 = .ok (.invokevirtual 60, 3) := by decide +kernel
theorem prd_Y_endBlock_28 : decode prb_Y_endBlock 28 = .ok (.aload_n 0, 1) := by decide +kernel
theorem prd_Y_endBlock_29 : decode prb_Y_endBlock 29 = .ok (.invokevirtual 111, 3) := by decide +kernel
theorem prd_Y_endBlock_32 : decode prb_Y_endBlock 32 = .ok (.ifCond .eq 53, 3) := by decide +kernel
theorem prd_Y_endBlock_85 : decode prb_Y_endBlock 85 = .ok (.aload_n 0, 1) := by decide +kernel
theorem prd_Y_endBlock_86 : decode prb_Y_endBlock 86 = .ok (.getfield 35, 3) := by decide +kernel
theorem prd_Y_endBlock_89 : decode prb_Y_endBlock 89 = .ok (.iload_n 1, 1) := by decide +kernel
theorem prd_Y_endBlock_90 : decode prb_Y_endBlock 90 = .ok (.invokevirtual 130, 3) := by decide +kernel
theorem prd_Y_endBlock_93 : decode prb_Y_endBlock 93 = .ok (.aload_n 0, 1) := by decide +kernel
theorem prd_Y_endBlock_94 : decode prb_Y_endBlock 94 = .ok (.dup, 1) := by decide +kernel
theorem prd_Y_endBlock_95 : decode prb_Y_endBlock 95 = .ok (.getfield 64, 3) := by decide +kernel
theorem prd_Y_endBlock_98 : decode prb_Y_endBlock 98 = .ok (.iconst 1, 1) := by decide +kernel
theorem prd_Y_endBlock_99 : decode prb_Y_endBlock 99 = .ok (.isub, 1) := by decide +kernel
theorem prd_Y_endBlock_100 : decode prb_Y_endBlock 100 = .ok (.putfield 64, 3) := by decide +kernel
theorem prd_Y_endBlock_103 : decode prb_Y_endBlock 103 = .ok (.return_, 1) := by decide +kernel
theorem prd_Y_endBlock_35 : decode prb_Y_endBlock 35 = .ok (.aload_n 0, 1) := by decide +kernel
theorem prd_Y_endBlock_36 : decode prb_Y_endBlock 36 = .ok (.getfield 15, 3) := by decide +kernel
theorem prd_Y_endBlock_39 : decode prb_Y_endBlock 39 = .ok (.aload_n 0, 1) := by decide +kernel
theorem prd_Y_endBlock_40 : decode prb_Y_endBlock 40 = .ok (.getfield 86, 3) := by decide +kernel
theorem prd_Y_endBlock_43 : decode prb_Y_endBlock 43 = .ok (.iaload, 1) := by decide +kernel
theorem prd_Y_endBlock_44 : decode prb_Y_endBlock 44 = .ok (.aload_n 0, 1) := by decide +kernel
theorem prd_Y_endBlock_45 : decode prb_Y_endBlock 45 = .ok (.getfield 18, 3) := by decide +kernel
theorem prd_Y_endBlock_48 : decode prb_Y_endBlock 48 = .ok (.aload_n 0, 1) := by decide +kernel
theorem prd_Y_endBlock_49 : decode prb_Y_endBlock 49 = .ok (.getfield 86, 3) := by decide +kernel
theorem prd_Y_endBlock_52 : decode prb_Y_endBlock 52 = .ok (.iaload, 1) := by decide +kernel
theorem prd_Y_endBlock_53 : decode prb_Y_endBlock 53 = .ok (.if_icmp .ge 32, 3) := by decide +kernel
theorem prd_Y_endBlock_56 : decode prb_Y_endBlock 56 = .ok (.aload_n 0, 1) := by decide +kernel
theorem prd_Y_endBlock_57 : decode prb_Y_endBlock 57 = .ok (.getfield 15, 3) := by decide +kernel
theorem prd_Y_endBlock_60 : decode prb_Y_endBlock 60 = .ok (.aload_n 0, 1) := by decide +kernel
theorem prd_Y_endBlock_61 : decode prb_Y_endBlock 61 = .ok (.getfield 86, 3) := by decide +kernel
theorem prd_Y_endBlock_64 : decode prb_Y_endBlock 64 = .ok (.aload_n 0, 1) := by decide +kernel
theorem prd_Y_endBlock_65 : decode prb_Y_endBlock 65 = .ok (.getfield 18, 3) := by decide +kernel
theorem prd_Y_endBlock_68 : decode prb_Y_endBlock 68 = .ok (.aload_n 0, 1) := by decide +kernel
theorem prd_Y_endBlock_69 : decode prb_Y_endBlock 69 = .ok (.getfield 86, 3) := by decide +kernel
theorem prd_Y_endBlock_72 : decode prb_Y_endBlock 72 = .ok (.iaload, 1) := by decide +kernel
theorem prd_Y_endBlock_73 : decode prb_Y_endBlock 73 = .ok (.iastore, 1) := by decide +kernel
theorem prd_Y_endBlock_74 : decode prb_Y_endBlock 74 = .ok (.aload_n 0, 1) := by decide +kernel
theorem prd_Y_endBlock_75 : decode prb_Y_endBlock 75 = .ok (.getfield 35, 3) := by decide +kernel
theorem prd_Y_endBlock_78 : decode prb_Y_endBlock 78 = .ok (.iload_n 1, 1) := by decide +kernel
theorem prd_Y_endBlock_79 : decode prb_Y_endBlock 79 = .ok (.invokevirtual 127, 3) := by decide +kernel
theorem prd_Y_endBlock_82 : decode prb_Y_endBlock 82 = .ok (.goto 21, 3) := by decide +kernel
theorem prd_Y_findForeign_0 : decode prb_Y_findForeign 0 = .ok (.aload_n 0, 1) := by decide +kernel
theorem prd_Y_findForeign_1 : decode prb_Y_findForeign 1 = .ok (.invokevirtual 118, 3) := by decide +kernel
theorem prd_Y_findForeign_4 : decode prb_Y_findForeign 4 = .ok (.istore_n 1, 1) := by decide +kernel
theorem prd_Y_findForeign_5 : decode prb_Y_findForeign 5 = .ok (.aload_n 0, 1) := by decide +kernel
theorem prd_Y_findForeign_6 : decode prb_Y_findForeign 6 = .ok (.getfield 35, 3) := by decide +kernel
theorem prd_Y_findForeign_9 : decode prb_Y_findForeign 9 = .ok (.iload_n 1, 1) := by decide +kernel
theorem prd_Y_findForeign_10 : decode prb_Y_findForeign 10 = .ok (.invokevirtual 146, 3) := by decide +kernel
theorem prd_Y_findForeign_13 : decode prb_Y_findForeign 13 = .ok (.iconst 4, 1) := by decide +kernel
theorem prd_Y_findForeign_14 : decode prb_Y_findForeign 14 = .ok (.if_icmp .ne 7, 3) := by decide +kernel
theorem prd_Y_findForeign_21 : decode prb_Y_findForeign 21 = .ok (.iconst 0, 1) := by decide +kernel
theorem prd_Y_findForeign_22 : decode prb_Y_findForeign 22 = .ok (.istore_n 2, 1) := by decide +kernel
theorem prd_Y_findForeign_23 : decode prb_Y_findForeign 23 = .ok (.aload_n 0, 1) := by decide +kernel
theorem prd_Y_findForeign_24 : decode prb_Y_findForeign 24 = .ok (.iload_n 2, 1) := by decide +kernel
theorem prd_Y_findForeign_25 : decode prb_Y_findForeign 25 = .ok (.ifCond .eq 14, 3) := by decide +kernel
theorem prd_Y_findForeign_39 : decode prb_Y_findForeign 39 = .ok (.aload_n 0, 1) := by decide +kernel
theorem prd_Y_findForeign_40 : decode prb_Y_findForeign 40 = .ok (.getfield 35, 3) := by decide +kernel
theorem prd_Y_findForeign_43 : decode prb_Y_findForeign 43 = .ok (.iload_n 1, 1) := by decide +kernel
theorem prd_Y_findForeign_44 : decode prb_Y_findForeign 44 = .ok (.invokevirtual 149, 3) := by decide +kernel
theorem prd_Y_findForeign_47 : decode prb_Y_findForeign 47 = .ok (.putfield 152, 3) := by decide +kernel
theorem prd_Y_findForeign_50 : decode prb_Y_findForeign 50 = .ok (.aload_n 0, 1) := by decide +kernel
theorem prd_Y_findForeign_51 : decode prb_Y_findForeign 51 = .ok (.iload_n 2, 1) := by decide +kernel
theorem prd_Y_findForeign_52 : decode prb_Y_findForeign 52 = .ok (.ifCond .eq 14, 3) := by decide +kernel
theorem prd_Y_findForeign_66 : decode prb_Y_findForeign 66 = .ok (.aload_n 0, 1) := by decide +kernel
theorem prd_Y_findForeign_67 : decode prb_Y_findForeign 67 = .ok (.getfield 35, 3) := by decide +kernel
theorem prd_Y_findForeign_70 : decode prb_Y_findForeign 70 = .ok (.iload_n 1, 1) := by decide +kernel
theorem prd_Y_findForeign_71 : decode prb_Y_findForeign 71 = .ok (.invokevirtual 155, 3) := by decide +kernel
theorem prd_Y_findForeign_74 : decode prb_Y_findForeign 74 = .ok (.putfield 158, 3) := by decide +kernel
theorem prd_Y_findForeign_77 : decode prb_Y_findForeign 77 = .ok (.return_, 1) := by decide +kernel
theorem prd_Y_findForeign_55 : decode prb_Y_findForeign 55 = .ok (.aload_n 0, 1) := by decide +kernel
theorem prd_Y_findForeign_56 : decode prb_Y_findForeign 56 = .ok (.getfield 35, 3) := by decide +kernel
theorem prd_Y_findForeign_59 : decode prb_Y_findForeign 59 = .ok (.iload_n 1, 1) := by decide +kernel
theorem prd_Y_findForeign_60 : decode prb_Y_findForeign 60 = .ok (.invokevirtual 124, 3) := by decide +kernel
theorem prd_Y_findForeign_63 : decode prb_Y_findForeign 63 = .ok (.goto 11, 3) := by decide +kernel
theorem prd_Y_findForeign_28 : decode prb_Y_findForeign 28 = .ok (.aload_n 0, 1) := by decide +kernel
theorem prd_Y_findForeign_29 : decode prb_Y_findForeign 29 = .ok (.getfield 35, 3) := by decide +kernel
theorem prd_Y_findForeign_32 : decode prb_Y_findForeign 32 = .ok (.iload_n 1, 1) := by decide +kernel
theorem prd_Y_findForeign_33 : decode prb_Y_findForeign 33 = .ok (.invokevirtual 121, 3) := by decide +kernel
theorem prd_Y_findForeign_36 : decode prb_Y_findForeign 36 = .ok (.goto 11, 3) := by decide +kernel
theorem prd_Y_findForeign_17 : decode prb_Y_findForeign 17 = .ok (.iconst 1, 1) := by decide +kernel
theorem prd_Y_findForeign_18 : decode prb_Y_findForeign 18 = .ok (.goto 4, 3) := by decide +kernel
theorem prd_Y_isLast_0 : decode prb_Y_isLast 0 = .ok (.aload_n 0, 1) := by decide +kernel
theorem prd_Y_isLast_1 : decode prb_Y_isLast 1 = .ok (.invokevirtual 111, 3) := by decide +kernel
theorem prd_Y_isLast_4 : decode prb_Y_isLast 4 = .ok (.ifCond .eq 27, 3) := by decide +kernel
theorem prd_Y_isLast_31 : decode prb_Y_isLast 31 = .ok (.iconst 0, 1) := by decide +kernel
theorem prd_Y_isLast_32 : decode prb_Y_isLast 32 = .ok (.ireturn, 1) := by decide +kernel
theorem prd_Y_isLast_7 : decode prb_Y_isLast 7 = .ok (.aload_n 0, 1) := by decide +kernel
theorem prd_Y_isLast_8 : decode prb_Y_isLast 8 = .ok (.getfield 31, 3) := by decide +kernel
theorem prd_Y_isLast_11 : decode prb_Y_isLast 11 = .ok (.iload_n 1, 1) := by decide +kernel
theorem prd_Y_isLast_12 : decode prb_Y_isLast 12 = .ok (.invokevirtual 115, 3) := by decide +kernel
theorem prd_Y_isLast_15 : decode prb_Y_isLast 15 = .ok (.aload_n 0, 1) := by decide +kernel
theorem prd_Y_isLast_16 : decode prb_Y_isLast 16 = .ok (.getfield 15, 3) := by decide +kernel
theorem prd_Y_isLast_19 : decode prb_Y_isLast 19 = .ok (.aload_n 0, 1) := by decide +kernel
theorem prd_Y_isLast_20 : decode prb_Y_isLast 20 = .ok (.getfield 86, 3) := by decide +kernel
theorem prd_Y_isLast_23 : decode prb_Y_isLast 23 = .ok (.iaload, 1) := by decide +kernel
theorem prd_Y_isLast_24 : decode prb_Y_isLast 24 = .ok (.if_icmp .ne 7, 3) := by decide +kernel
theorem prd_Y_isLast_27 : decode prb_Y_isLast 27 = .ok (.iconst 1, 1) := by decide +kernel
theorem prd_Y_isLast_28 : decode prb_Y_isLast 28 = .ok (.goto 4, 3) := by decide +kernel
theorem prd_Y_returnHolds_0 : decode prb_Y_returnHolds 0 = .ok (.aload_n 0, 1) := by decide +kernel
theorem prd_Y_returnHolds_1 : decode prb_Y_returnHolds 1 = .ok (.invokevirtual 118, 3) := by decide +kernel
theorem prd_Y_returnHolds_4 : decode prb_Y_returnHolds 4 = .ok (.iconst (-1), 1) := by decide +kernel
theorem prd_Y_returnHolds_5 : decode prb_Y_returnHolds 5 = .ok (.if_icmp .ne 7, 3) := by decide +kernel
theorem prd_Y_returnHolds_12 : decode prb_Y_returnHolds 12 = .ok (.iconst 0, 1) := by decide +kernel
theorem prd_Y_returnHolds_13 : decode prb_Y_returnHolds 13 = .ok (.istore_n 3, 1) := by decide +kernel
theorem prd_Y_returnHolds_14 : decode prb_Y_returnHolds 14 = .ok (.iload_n 3, 1) := by decide +kernel
theorem prd_Y_returnHolds_15 : decode prb_Y_returnHolds 15 = .ok (.ifCond .ne 18, 3) := by decide +kernel
theorem prd_Y_returnHolds_18 : decode prb_Y_returnHolds 18 = .ok (.aload_n 0, 1) := by decide +kernel
theorem prd_Y_returnHolds_19 : decode prb_Y_returnHolds 19 = .ok (.getfield 35, 3) := by decide +kernel
theorem prd_Y_returnHolds_22 : decode prb_Y_returnHolds 22 = .ok (.aload_n 0, 1) := by decide +kernel
theorem prd_Y_returnHolds_23 : decode prb_Y_returnHolds 23 = .ok (.invokevirtual 118, 3) := by decide +kernel
theorem prd_Y_returnHolds_26 : decode prb_Y_returnHolds 26 = .ok (.invokevirtual 146, 3) := by decide +kernel
theorem prd_Y_returnHolds_29 : decode prb_Y_returnHolds 29 = .ok (.iconst 4, 1) := by decide +kernel
theorem prd_Y_returnHolds_30 : decode prb_Y_returnHolds 30 = .ok (.if_icmp .ne 7, 3) := by decide +kernel
theorem prd_Y_returnHolds_37 : decode prb_Y_returnHolds 37 = .ok (.iconst 0, 1) := by decide +kernel
theorem prd_Y_returnHolds_38 : decode prb_Y_returnHolds 38 = .ok (.istore 4, 2) := by decide +kernel
theorem prd_Y_returnHolds_40 : decode prb_Y_returnHolds 40 = .ok (.iload 4, 2) := by decide +kernel
theorem prd_Y_returnHolds_42 : decode prb_Y_returnHolds 42 = .ok (.ifCond .eq 11, 3) := by decide +kernel
theorem prd_Y_returnHolds_53 : decode prb_Y_returnHolds 53 = .ok (.aload_n 0, 1) := by decide +kernel
theorem prd_Y_returnHolds_54 : decode prb_Y_returnHolds 54 = .ok (.bipush 6, 2) := by decide +kernel
theorem prd_Y_returnHolds_56 : decode prb_Y_returnHolds 56 = .ok (.iload_n 2, 1) := by decide +kernel
theorem prd_Y_returnHolds_57 : decode prb_Y_returnHolds 57 = .ok (.invokevirtual 79, 3) := by decide +kernel
theorem prd_Y_returnHolds_60 : decode prb_Y_returnHolds 60 = .ok (.ireturn, 1) := by decide +kernel
theorem prd_Y_returnHolds_45 : decode prb_Y_returnHolds 45 = .ok (.aload_n 0, 1) := by decide +kernel
theorem prd_Y_returnHolds_46 : decode prb_Y_returnHolds 46 = .ok (.iload_n 1, 1) := by decide +kernel
theorem prd_Y_returnHolds_47 : decode prb_Y_returnHolds 47 = .ok (.invokevirtual 169, 3) := by decide +kernel
theorem prd_Y_returnHolds_50 : decode prb_Y_returnHolds 50 = .ok (.ifCond .ne 11, 3) := by decide +kernel
theorem prd_Y_returnHolds_61 : decode prb_Y_returnHolds 61 = .ok (.iload_n 3, 1) := by decide +kernel
theorem prd_Y_returnHolds_62 : decode prb_Y_returnHolds 62 = .ok (.ifCond .eq 13, 3) := by decide +kernel
theorem prd_Y_returnHolds_75 : decode prb_Y_returnHolds 75 = .ok (.iconst 1, 1) := by decide +kernel
theorem prd_Y_returnHolds_76 : decode prb_Y_returnHolds 76 = .ok (.goto 4, 3) := by decide +kernel
theorem prd_Y_returnHolds_80 : decode prb_Y_returnHolds 80 = .ok (.ireturn, 1) := by decide +kernel
theorem prd_Y_returnHolds_65 : decode prb_Y_returnHolds 65 = .ok (.aload_n 0, 1) := by decide +kernel
theorem prd_Y_returnHolds_66 : decode prb_Y_returnHolds 66 = .ok (.bipush 7, 2) := by decide +kernel
theorem prd_Y_returnHolds_68 : decode prb_Y_returnHolds 68 = .ok (.iload_n 2, 1) := by decide +kernel
theorem prd_Y_returnHolds_69 : decode prb_Y_returnHolds 69 = .ok (.invokevirtual 79, 3) := by decide +kernel
theorem prd_Y_returnHolds_72 : decode prb_Y_returnHolds 72 = .ok (.ifCond .eq 7, 3) := by decide +kernel
theorem prd_Y_returnHolds_79 : decode prb_Y_returnHolds 79 = .ok (.iconst 0, 1) := by decide +kernel
theorem prd_Y_returnHolds_8 : decode prb_Y_returnHolds 8 = .ok (.iconst 1, 1) := by decide +kernel
theorem prd_Y_returnHolds_9 : decode prb_Y_returnHolds 9 = .ok (.goto 4, 3) := by decide +kernel
theorem prd_Y_returnHolds_33 : decode prb_Y_returnHolds 33 = .ok (.iconst 1, 1) := by decide +kernel
theorem prd_Y_returnHolds_34 : decode prb_Y_returnHolds 34 = .ok (.goto 4, 3) := by decide +kernel
theorem prd_Y_blockBegin_0 : decode prb_Y_blockBegin 0 = .ok (.aload_n 0, 1) := by decide +kernel
theorem prd_Y_blockBegin_1 : decode prb_Y_blockBegin 1 = .ok (.getfield 35, 3) := by decide +kernel
theorem prd_Y_blockBegin_4 : decode prb_Y_blockBegin 4 = .ok (.aload_n 0, 1) := by decide +kernel
theorem prd_Y_blockBegin_5 : decode prb_Y_blockBegin 5 = .ok (.invokevirtual 118, 3) := by decide +kernel
theorem prd_Y_blockBegin_8 : decode prb_Y_blockBegin 8 = .ok (.invokevirtual 121, 3) := by decide +kernel
theorem prd_Y_blockBegin_11 : decode prb_Y_blockBegin 11 = .ok (.aload_n 0, 1) := by decide +kernel
theorem prd_Y_blockBegin_12 : decode prb_Y_blockBegin 12 = .ok (.getfield 35, 3) := by decide +kernel
theorem prd_Y_blockBegin_15 : decode prb_Y_blockBegin 15 = .ok (.aload_n 0, 1) := by decide +kernel
theorem prd_Y_blockBegin_16 : decode prb_Y_blockBegin 16 = .ok (.invokevirtual 118, 3) := by decide +kernel
theorem prd_Y_blockBegin_19 : decode prb_Y_blockBegin 19 = .ok (.invokevirtual 124, 3) := by decide +kernel
theorem prd_Y_blockBegin_22 : decode prb_Y_blockBegin 22 = .ok (.iadd, 1) := by decide +kernel
theorem prd_Y_blockBegin_23 : decode prb_Y_blockBegin 23 = .ok (.ireturn, 1) := by decide +kernel
theorem prd_Y_varHolds_0 : decode prb_Y_varHolds 0 = .ok (.aload_n 0, 1) := by decide +kernel
theorem prd_Y_varHolds_1 : decode prb_Y_varHolds 1 = .ok (.getfield 44, 3) := by decide +kernel
theorem prd_Y_varHolds_4 : decode prb_Y_varHolds 4 = .ok (.iload_n 1, 1) := by decide +kernel
theorem prd_Y_varHolds_5 : decode prb_Y_varHolds 5 = .ok (.iconst 1, 1) := by decide +kernel
theorem prd_Y_varHolds_6 : decode prb_Y_varHolds 6 = .ok (.iadd, 1) := by decide +kernel
theorem prd_Y_varHolds_7 : decode prb_Y_varHolds 7 = .ok (.aload_n 0, 1) := by decide +kernel
theorem prd_Y_varHolds_8 : decode prb_Y_varHolds 8 = .ok (.invokevirtual 238, 3) := by decide +kernel
theorem prd_Y_varHolds_11 : decode prb_Y_varHolds 11 = .ok (.invokevirtual 241, 3) := by decide +kernel
theorem prd_Y_varHolds_14 : decode prb_Y_varHolds 14 = .ok (.iconst (-1), 1) := by decide +kernel
theorem prd_Y_varHolds_15 : decode prb_Y_varHolds 15 = .ok (.if_icmp .eq 12, 3) := by decide +kernel
theorem prd_Y_varHolds_27 : decode prb_Y_varHolds 27 = .ok (.aload_n 0, 1) := by decide +kernel
theorem prd_Y_varHolds_28 : decode prb_Y_varHolds 28 = .ok (.getfield 27, 3) := by decide +kernel
theorem prd_Y_varHolds_31 : decode prb_Y_varHolds 31 = .ok (.iload_n 1, 1) := by decide +kernel
theorem prd_Y_varHolds_32 : decode prb_Y_varHolds 32 = .ok (.iconst 2, 1) := by decide +kernel
theorem prd_Y_varHolds_33 : decode prb_Y_varHolds 33 = .ok (.iadd, 1) := by decide +kernel
theorem prd_Y_varHolds_34 : decode prb_Y_varHolds 34 = .ok (.invokevirtual 189, 3) := by decide +kernel
theorem prd_Y_varHolds_37 : decode prb_Y_varHolds 37 = .ok (.bipush 16, 2) := by decide +kernel
theorem prd_Y_varHolds_39 : decode prb_Y_varHolds 39 = .ok (.if_icmp .eq 5, 3) := by decide +kernel
theorem prd_Y_varHolds_44 : decode prb_Y_varHolds 44 = .ok (.aload_n 0, 1) := by decide +kernel
theorem prd_Y_varHolds_45 : decode prb_Y_varHolds 45 = .ok (.getfield 27, 3) := by decide +kernel
theorem prd_Y_varHolds_48 : decode prb_Y_varHolds 48 = .ok (.iload_n 1, 1) := by decide +kernel
theorem prd_Y_varHolds_49 : decode prb_Y_varHolds 49 = .ok (.iconst 3, 1) := by decide +kernel
theorem prd_Y_varHolds_50 : decode prb_Y_varHolds 50 = .ok (.iadd, 1) := by decide +kernel
theorem prd_Y_varHolds_51 : decode prb_Y_varHolds 51 = .ok (.invokevirtual 244, 3) := by decide +kernel
theorem prd_Y_varHolds_54 : decode prb_Y_varHolds 54 = .ok (.istore_n 2, 1) := by decide +kernel
theorem prd_Y_varHolds_55 : decode prb_Y_varHolds 55 = .ok (.iload_n 2, 1) := by decide +kernel
theorem prd_Y_varHolds_56 : decode prb_Y_varHolds 56 = .ok (.iconst 1, 1) := by decide +kernel
theorem prd_Y_varHolds_57 : decode prb_Y_varHolds 57 = .ok (.if_icmp .lt 9, 3) := by decide +kernel
theorem prd_Y_varHolds_66 : decode prb_Y_varHolds 66 = .ok (.aload_n 0, 1) := by decide +kernel
theorem prd_Y_varHolds_67 : decode prb_Y_varHolds 67 = .ok (.bipush 9, 2) := by decide +kernel
theorem prd_Y_varHolds_69 : decode prb_Y_varHolds 69 = .ok (.iload_n 1, 1) := by decide +kernel
theorem prd_Y_varHolds_70 : decode prb_Y_varHolds 70 = .ok (.iconst 3, 1) := by decide +kernel
theorem prd_Y_varHolds_71 : decode prb_Y_varHolds 71 = .ok (.iadd, 1) := by decide +kernel
theorem prd_Y_varHolds_72 : decode prb_Y_varHolds 72 = .ok (.invokevirtual 79, 3) := by decide +kernel
theorem prd_Y_varHolds_75 : decode prb_Y_varHolds 75 = .ok (.ifCond .eq 7, 3) := by decide +kernel
theorem prd_Y_varHolds_82 : decode prb_Y_varHolds 82 = .ok (.iconst 0, 1) := by decide +kernel
theorem prd_Y_varHolds_83 : decode prb_Y_varHolds 83 = .ok (.ireturn, 1) := by decide +kernel
theorem prd_Y_varHolds_78 : decode prb_Y_varHolds 78 = .ok (.iconst 1, 1) := by decide +kernel
theorem prd_Y_varHolds_79 : decode prb_Y_varHolds 79 = .ok (.goto 4, 3) := by decide +kernel
theorem prd_Y_varHolds_60 : decode prb_Y_varHolds 60 = .ok (.iload_n 2, 1) := by decide +kernel
theorem prd_Y_varHolds_61 : decode prb_Y_varHolds 61 = .ok (.bipush 64, 2) := by decide +kernel
theorem prd_Y_varHolds_63 : decode prb_Y_varHolds 63 = .ok (.if_icmp .le 15, 3) := by decide +kernel
theorem prd_Y_varHolds_42 : decode prb_Y_varHolds 42 = .ok (.iconst 1, 1) := by decide +kernel
theorem prd_Y_varHolds_43 : decode prb_Y_varHolds 43 = .ok (.ireturn, 1) := by decide +kernel
theorem prd_Y_varHolds_18 : decode prb_Y_varHolds 18 = .ok (.aload_n 0, 1) := by decide +kernel
theorem prd_Y_varHolds_19 : decode prb_Y_varHolds 19 = .ok (.iconst 2, 1) := by decide +kernel
theorem prd_Y_varHolds_20 : decode prb_Y_varHolds 20 = .ok (.iload_n 1, 1) := by decide +kernel
theorem prd_Y_varHolds_21 : decode prb_Y_varHolds 21 = .ok (.iconst 1, 1) := by decide +kernel
theorem prd_Y_varHolds_22 : decode prb_Y_varHolds 22 = .ok (.iadd, 1) := by decide +kernel
theorem prd_Y_varHolds_23 : decode prb_Y_varHolds 23 = .ok (.invokevirtual 79, 3) := by decide +kernel
theorem prd_Y_varHolds_26 : decode prb_Y_varHolds 26 = .ok (.ireturn, 1) := by decide +kernel
theorem prd_Y_function_0 : decode prb_Y_function 0 = .ok (.aload_n 0, 1) := by decide +kernel
theorem prd_Y_function_1 : decode prb_Y_function 1 = .ok (.invokevirtual 111, 3) := by decide +kernel
theorem prd_Y_function_4 : decode prb_Y_function 4 = .ok (.ifCond .eq 15, 3) := by decide +kernel
theorem prd_Y_function_19 : decode prb_Y_function 19 = .ok (.iconst (-1), 1) := by decide +kernel
theorem prd_Y_function_20 : decode prb_Y_function 20 = .ok (.ireturn, 1) := by decide +kernel
theorem prd_Y_function_7 : decode prb_Y_function 7 = .ok (.aload_n 0, 1) := by decide +kernel
theorem prd_Y_function_8 : decode prb_Y_function 8 = .ok (.getfield 24, 3) := by decide +kernel
theorem prd_Y_function_11 : decode prb_Y_function 11 = .ok (.aload_n 0, 1) := by decide +kernel
theorem prd_Y_function_12 : decode prb_Y_function 12 = .ok (.getfield 86, 3) := by decide +kernel
theorem prd_Y_function_15 : decode prb_Y_function 15 = .ok (.iaload, 1) := by decide +kernel
theorem prd_Y_function_16 : decode prb_Y_function 16 = .ok (.goto 4, 3) := by decide +kernel
theorem prd_Y_functionMeant_0 : decode prb_Y_functionMeant 0 = .ok (.aload_n 0, 1) := by decide +kernel
theorem prd_Y_functionMeant_1 : decode prb_Y_functionMeant 1 = .ok (.invokevirtual 195, 3) := by decide +kernel
theorem prd_Y_functionMeant_4 : decode prb_Y_functionMeant 4 = .ok (.iconst 1, 1) := by decide +kernel
theorem prd_Y_functionMeant_5 : decode prb_Y_functionMeant 5 = .ok (.isub, 1) := by decide +kernel
theorem prd_Y_functionMeant_6 : decode prb_Y_functionMeant 6 = .ok (.istore_n 2, 1) := by decide +kernel
theorem prd_Y_functionMeant_7 : decode prb_Y_functionMeant 7 = .ok (.iload_n 2, 1) := by decide +kernel
theorem prd_Y_functionMeant_8 : decode prb_Y_functionMeant 8 = .ok (.ifCond .lt 30, 3) := by decide +kernel
theorem prd_Y_functionMeant_38 : decode prb_Y_functionMeant 38 = .ok (.iconst (-1), 1) := by decide +kernel
theorem prd_Y_functionMeant_39 : decode prb_Y_functionMeant 39 = .ok (.ireturn, 1) := by decide +kernel
theorem prd_Y_functionMeant_11 : decode prb_Y_functionMeant 11 = .ok (.aload_n 0, 1) := by decide +kernel
theorem prd_Y_functionMeant_12 : decode prb_Y_functionMeant 12 = .ok (.getfield 27, 3) := by decide +kernel
theorem prd_Y_functionMeant_15 : decode prb_Y_functionMeant 15 = .ok (.aload_n 0, 1) := by decide +kernel
theorem prd_Y_functionMeant_16 : decode prb_Y_functionMeant 16 = .ok (.getfield 31, 3) := by decide +kernel
theorem prd_Y_functionMeant_19 : decode prb_Y_functionMeant 19 = .ok (.iload_n 2, 1) := by decide +kernel
theorem prd_Y_functionMeant_20 : decode prb_Y_functionMeant 20 = .ok (.invokevirtual 76, 3) := by decide +kernel
theorem prd_Y_functionMeant_23 : decode prb_Y_functionMeant 23 = .ok (.iload_n 1, 1) := by decide +kernel
theorem prd_Y_functionMeant_24 : decode prb_Y_functionMeant 24 = .ok (.invokevirtual 277, 3) := by decide +kernel
theorem prd_Y_functionMeant_27 : decode prb_Y_functionMeant 27 = .ok (.ifCond .eq 5, 3) := by decide +kernel
theorem prd_Y_functionMeant_32 : decode prb_Y_functionMeant 32 = .ok (.iinc 2 (-1), 3) := by decide +kernel
theorem prd_Y_functionMeant_35 : decode prb_Y_functionMeant 35 = .ok (.goto (-28), 3) := by decide +kernel
theorem prd_Y_functionMeant_30 : decode prb_Y_functionMeant 30 = .ok (.iload_n 2, 1) := by decide +kernel
theorem prd_Y_functionMeant_31 : decode prb_Y_functionMeant 31 = .ok (.ireturn, 1) := by decide +kernel
theorem prd_Y_callHolds_0 : decode prb_Y_callHolds 0 = .ok (.aload_n 0, 1) := by decide +kernel
theorem prd_Y_callHolds_1 : decode prb_Y_callHolds 1 = .ok (.iload_n 2, 1) := by decide +kernel
theorem prd_Y_callHolds_2 : decode prb_Y_callHolds 2 = .ok (.invokevirtual 271, 3) := by decide +kernel
theorem prd_Y_callHolds_5 : decode prb_Y_callHolds 5 = .ok (.istore_n 3, 1) := by decide +kernel
theorem prd_Y_callHolds_6 : decode prb_Y_callHolds 6 = .ok (.iload_n 3, 1) := by decide +kernel
theorem prd_Y_callHolds_7 : decode prb_Y_callHolds 7 = .ok (.iconst (-1), 1) := by decide +kernel
theorem prd_Y_callHolds_8 : decode prb_Y_callHolds 8 = .ok (.if_icmp .ne 10, 3) := by decide +kernel
theorem prd_Y_callHolds_18 : decode prb_Y_callHolds 18 = .ok (.aload_n 0, 1) := by decide +kernel
theorem prd_Y_callHolds_19 : decode prb_Y_callHolds 19 = .ok (.getfield 31, 3) := by decide +kernel
theorem prd_Y_callHolds_22 : decode prb_Y_callHolds 22 = .ok (.iload_n 1, 1) := by decide +kernel
theorem prd_Y_callHolds_23 : decode prb_Y_callHolds 23 = .ok (.invokevirtual 198, 3) := by decide +kernel
theorem prd_Y_callHolds_26 : decode prb_Y_callHolds 26 = .ok (.aload_n 0, 1) := by decide +kernel
theorem prd_Y_callHolds_27 : decode prb_Y_callHolds 27 = .ok (.getfield 31, 3) := by decide +kernel
theorem prd_Y_callHolds_30 : decode prb_Y_callHolds 30 = .ok (.iload_n 3, 1) := by decide +kernel
theorem prd_Y_callHolds_31 : decode prb_Y_callHolds 31 = .ok (.invokevirtual 72, 3) := by decide +kernel
theorem prd_Y_callHolds_34 : decode prb_Y_callHolds 34 = .ok (.if_icmp .eq 10, 3) := by decide +kernel
theorem prd_Y_callHolds_44 : decode prb_Y_callHolds 44 = .ok (.iload_n 2, 1) := by decide +kernel
theorem prd_Y_callHolds_45 : decode prb_Y_callHolds 45 = .ok (.aload_n 0, 1) := by decide +kernel
theorem prd_Y_callHolds_46 : decode prb_Y_callHolds 46 = .ok (.getfield 31, 3) := by decide +kernel
theorem prd_Y_callHolds_49 : decode prb_Y_callHolds 49 = .ok (.iload_n 1, 1) := by decide +kernel
theorem prd_Y_callHolds_50 : decode prb_Y_callHolds 50 = .ok (.invokevirtual 161, 3) := by decide +kernel
theorem prd_Y_callHolds_53 : decode prb_Y_callHolds 53 = .ok (.if_icmp .eq 7, 3) := by decide +kernel
theorem prd_Y_callHolds_60 : decode prb_Y_callHolds 60 = .ok (.iconst 0, 1) := by decide +kernel
theorem prd_Y_callHolds_61 : decode prb_Y_callHolds 61 = .ok (.istore 4, 2) := by decide +kernel
theorem prd_Y_callHolds_63 : decode prb_Y_callHolds 63 = .ok (.iload 4, 2) := by decide +kernel
theorem prd_Y_callHolds_65 : decode prb_Y_callHolds 65 = .ok (.ifCond .eq 22, 3) := by decide +kernel
theorem prd_Y_callHolds_87 : decode prb_Y_callHolds 87 = .ok (.aload_n 0, 1) := by decide +kernel
theorem prd_Y_callHolds_88 : decode prb_Y_callHolds 88 = .ok (.iload_n 3, 1) := by decide +kernel
theorem prd_Y_callHolds_89 : decode prb_Y_callHolds 89 = .ok (.putfield 210, 3) := by decide +kernel
theorem prd_Y_callHolds_92 : decode prb_Y_callHolds 92 = .ok (.iconst 1, 1) := by decide +kernel
theorem prd_Y_callHolds_93 : decode prb_Y_callHolds 93 = .ok (.ireturn, 1) := by decide +kernel
theorem prd_Y_callHolds_68 : decode prb_Y_callHolds 68 = .ok (.aload_n 0, 1) := by decide +kernel
theorem prd_Y_callHolds_69 : decode prb_Y_callHolds 69 = .ok (.getfield 31, 3) := by decide +kernel
theorem prd_Y_callHolds_72 : decode prb_Y_callHolds 72 = .ok (.iload_n 3, 1) := by decide +kernel
theorem prd_Y_callHolds_73 : decode prb_Y_callHolds 73 = .ok (.invokevirtual 274, 3) := by decide +kernel
theorem prd_Y_callHolds_76 : decode prb_Y_callHolds 76 = .ok (.ifCond .ne 11, 3) := by decide +kernel
theorem prd_Y_callHolds_79 : decode prb_Y_callHolds 79 = .ok (.aload_n 0, 1) := by decide +kernel
theorem prd_Y_callHolds_80 : decode prb_Y_callHolds 80 = .ok (.bipush 6, 2) := by decide +kernel
theorem prd_Y_callHolds_82 : decode prb_Y_callHolds 82 = .ok (.iload_n 2, 1) := by decide +kernel
theorem prd_Y_callHolds_83 : decode prb_Y_callHolds 83 = .ok (.invokevirtual 79, 3) := by decide +kernel
theorem prd_Y_callHolds_86 : decode prb_Y_callHolds 86 = .ok (.ireturn, 1) := by decide +kernel
theorem prd_Y_callHolds_56 : decode prb_Y_callHolds 56 = .ok (.iconst 1, 1) := by decide +kernel
theorem prd_Y_callHolds_57 : decode prb_Y_callHolds 57 = .ok (.goto 4, 3) := by decide +kernel
theorem prd_Y_callHolds_37 : decode prb_Y_callHolds 37 = .ok (.aload_n 0, 1) := by decide +kernel
theorem prd_Y_callHolds_38 : decode prb_Y_callHolds 38 = .ok (.iconst 5, 1) := by decide +kernel
theorem prd_Y_callHolds_39 : decode prb_Y_callHolds 39 = .ok (.iload_n 2, 1) := by decide +kernel
theorem prd_Y_callHolds_40 : decode prb_Y_callHolds 40 = .ok (.invokevirtual 79, 3) := by decide +kernel
theorem prd_Y_callHolds_43 : decode prb_Y_callHolds 43 = .ok (.ireturn, 1) := by decide +kernel
theorem prd_Y_callHolds_11 : decode prb_Y_callHolds 11 = .ok (.aload_n 0, 1) := by decide +kernel
theorem prd_Y_callHolds_12 : decode prb_Y_callHolds 12 = .ok (.iconst 4, 1) := by decide +kernel
theorem prd_Y_callHolds_13 : decode prb_Y_callHolds 13 = .ok (.iload_n 2, 1) := by decide +kernel
theorem prd_Y_callHolds_14 : decode prb_Y_callHolds 14 = .ok (.invokevirtual 79, 3) := by decide +kernel
theorem prd_Y_callHolds_17 : decode prb_Y_callHolds 17 = .ok (.ireturn, 1) := by decide +kernel
theorem prd_Y_nameHolds_0 : decode prb_Y_nameHolds 0 = .ok (.aload_n 0, 1) := by decide +kernel
theorem prd_Y_nameHolds_1 : decode prb_Y_nameHolds 1 = .ok (.getfield 44, 3) := by decide +kernel
theorem prd_Y_nameHolds_4 : decode prb_Y_nameHolds 4 = .ok (.iload_n 1, 1) := by decide +kernel
theorem prd_Y_nameHolds_5 : decode prb_Y_nameHolds 5 = .ok (.aload_n 0, 1) := by decide +kernel
theorem prd_Y_nameHolds_6 : decode prb_Y_nameHolds 6 = .ok (.getfield 152, 3) := by decide +kernel
theorem prd_Y_nameHolds_9 : decode prb_Y_nameHolds 9 = .ok (.aload_n 0, 1) := by decide +kernel
theorem prd_Y_nameHolds_10 : decode prb_Y_nameHolds 10 = .ok (.getfield 158, 3) := by decide +kernel
theorem prd_Y_nameHolds_13 : decode prb_Y_nameHolds 13 = .ok (.iadd, 1) := by decide +kernel
theorem prd_Y_nameHolds_14 : decode prb_Y_nameHolds 14 = .ok (.invokevirtual 241, 3) := by decide +kernel
theorem prd_Y_nameHolds_17 : decode prb_Y_nameHolds 17 = .ok (.istore_n 3, 1) := by decide +kernel
theorem prd_Y_nameHolds_18 : decode prb_Y_nameHolds 18 = .ok (.iload_n 3, 1) := by decide +kernel
theorem prd_Y_nameHolds_19 : decode prb_Y_nameHolds 19 = .ok (.iconst (-1), 1) := by decide +kernel
theorem prd_Y_nameHolds_20 : decode prb_Y_nameHolds 20 = .ok (.if_icmp .ne 10, 3) := by decide +kernel
theorem prd_Y_nameHolds_30 : decode prb_Y_nameHolds 30 = .ok (.aload_n 0, 1) := by decide +kernel
theorem prd_Y_nameHolds_31 : decode prb_Y_nameHolds 31 = .ok (.getfield 44, 3) := by decide +kernel
theorem prd_Y_nameHolds_34 : decode prb_Y_nameHolds 34 = .ok (.iload_n 3, 1) := by decide +kernel
theorem prd_Y_nameHolds_35 : decode prb_Y_nameHolds 35 = .ok (.invokevirtual 264, 3) := by decide +kernel
theorem prd_Y_nameHolds_38 : decode prb_Y_nameHolds 38 = .ok (.iload_n 2, 1) := by decide +kernel
theorem prd_Y_nameHolds_39 : decode prb_Y_nameHolds 39 = .ok (.if_icmp .eq 10, 3) := by decide +kernel
theorem prd_Y_nameHolds_49 : decode prb_Y_nameHolds 49 = .ok (.aload_n 0, 1) := by decide +kernel
theorem prd_Y_nameHolds_50 : decode prb_Y_nameHolds 50 = .ok (.getfield 31, 3) := by decide +kernel
theorem prd_Y_nameHolds_53 : decode prb_Y_nameHolds 53 = .ok (.iload_n 1, 1) := by decide +kernel
theorem prd_Y_nameHolds_54 : decode prb_Y_nameHolds 54 = .ok (.aload_n 0, 1) := by decide +kernel
theorem prd_Y_nameHolds_55 : decode prb_Y_nameHolds 55 = .ok (.getfield 44, 3) := by decide +kernel
theorem prd_Y_nameHolds_58 : decode prb_Y_nameHolds 58 = .ok (.iload_n 3, 1) := by decide +kernel
theorem prd_Y_nameHolds_59 : decode prb_Y_nameHolds 59 = .ok (.invokevirtual 267, 3) := by decide +kernel
theorem prd_Y_nameHolds_62 : decode prb_Y_nameHolds 62 = .ok (.iload_n 2, 1) := by decide +kernel
theorem prd_Y_nameHolds_63 : decode prb_Y_nameHolds 63 = .ok (.ifCond .eq 10, 3) := by decide +kernel
theorem prd_Y_nameHolds_73 : decode prb_Y_nameHolds 73 = .ok (.aload_n 0, 1) := by decide +kernel
theorem prd_Y_nameHolds_74 : decode prb_Y_nameHolds 74 = .ok (.getfield 152, 3) := by decide +kernel
theorem prd_Y_nameHolds_77 : decode prb_Y_nameHolds 77 = .ok (.isub, 1) := by decide +kernel
theorem prd_Y_nameHolds_78 : decode prb_Y_nameHolds 78 = .ok (.invokevirtual 268, 3) := by decide +kernel
theorem prd_Y_nameHolds_81 : decode prb_Y_nameHolds 81 = .ok (.iconst 1, 1) := by decide +kernel
theorem prd_Y_nameHolds_82 : decode prb_Y_nameHolds 82 = .ok (.ireturn, 1) := by decide +kernel
theorem prd_Y_nameHolds_66 : decode prb_Y_nameHolds 66 = .ok (.aload_n 0, 1) := by decide +kernel
theorem prd_Y_nameHolds_67 : decode prb_Y_nameHolds 67 = .ok (.getfield 158, 3) := by decide +kernel
theorem prd_Y_nameHolds_70 : decode prb_Y_nameHolds 70 = .ok (.goto 7, 3) := by decide +kernel
theorem prd_Y_nameHolds_42 : decode prb_Y_nameHolds 42 = .ok (.aload_n 0, 1) := by decide +kernel
theorem prd_Y_nameHolds_43 : decode prb_Y_nameHolds 43 = .ok (.iconst 3, 1) := by decide +kernel
theorem prd_Y_nameHolds_44 : decode prb_Y_nameHolds 44 = .ok (.iload_n 1, 1) := by decide +kernel
theorem prd_Y_nameHolds_45 : decode prb_Y_nameHolds 45 = .ok (.invokevirtual 79, 3) := by decide +kernel
theorem prd_Y_nameHolds_48 : decode prb_Y_nameHolds 48 = .ok (.ireturn, 1) := by decide +kernel
theorem prd_Y_nameHolds_23 : decode prb_Y_nameHolds 23 = .ok (.aload_n 0, 1) := by decide +kernel
theorem prd_Y_nameHolds_24 : decode prb_Y_nameHolds 24 = .ok (.iconst 1, 1) := by decide +kernel
theorem prd_Y_nameHolds_25 : decode prb_Y_nameHolds 25 = .ok (.iload_n 1, 1) := by decide +kernel
theorem prd_Y_nameHolds_26 : decode prb_Y_nameHolds 26 = .ok (.invokevirtual 79, 3) := by decide +kernel
theorem prd_Y_nameHolds_29 : decode prb_Y_nameHolds 29 = .ok (.ireturn, 1) := by decide +kernel
theorem prd_Y_limitsHold_0 : decode prb_Y_limitsHold 0 = .ok (.aload_n 0, 1) := by decide +kernel
theorem prd_Y_limitsHold_1 : decode prb_Y_limitsHold 1 = .ok (.getfield 27, 3) := by decide +kernel
theorem prd_Y_limitsHold_4 : decode prb_Y_limitsHold 4 = .ok (.iload_n 1, 1) := by decide +kernel
theorem prd_Y_limitsHold_5 : decode prb_Y_limitsHold 5 = .ok (.invokevirtual 258, 3) := by decide +kernel
theorem prd_Y_limitsHold_8 : decode prb_Y_limitsHold 8 = .ok (.istore_n 2, 1) := by decide +kernel
theorem prd_Y_limitsHold_9 : decode prb_Y_limitsHold 9 = .ok (.aload_n 0, 1) := by decide +kernel
theorem prd_Y_limitsHold_10 : decode prb_Y_limitsHold 10 = .ok (.getfield 27, 3) := by decide +kernel
theorem prd_Y_limitsHold_13 : decode prb_Y_limitsHold 13 = .ok (.iload_n 1, 1) := by decide +kernel
theorem prd_Y_limitsHold_14 : decode prb_Y_limitsHold 14 = .ok (.invokevirtual 261, 3) := by decide +kernel
theorem prd_Y_limitsHold_17 : decode prb_Y_limitsHold 17 = .ok (.aload_n 0, 1) := by decide +kernel
theorem prd_Y_limitsHold_18 : decode prb_Y_limitsHold 18 = .ok (.getfield 27, 3) := by decide +kernel
theorem prd_Y_limitsHold_21 : decode prb_Y_limitsHold 21 = .ok (.iload_n 2, 1) := by decide +kernel
theorem prd_Y_limitsHold_22 : decode prb_Y_limitsHold 22 = .ok (.invokevirtual 261, 3) := by decide +kernel
theorem prd_Y_limitsHold_25 : decode prb_Y_limitsHold 25 = .ok (.if_icmp .le 13, 3) := by decide +kernel
theorem prd_Y_limitsHold_38 : decode prb_Y_limitsHold 38 = .ok (.iconst 1, 1) := by decide +kernel
theorem prd_Y_limitsHold_39 : decode prb_Y_limitsHold 39 = .ok (.goto 4, 3) := by decide +kernel
theorem prd_Y_limitsHold_43 : decode prb_Y_limitsHold 43 = .ok (.ireturn, 1) := by decide +kernel
theorem prd_Y_limitsHold_28 : decode prb_Y_limitsHold 28 = .ok (.aload_n 0, 1) := by decide +kernel
theorem prd_Y_limitsHold_29 : decode prb_Y_limitsHold 29 = .ok (.bipush 8, 2) := by decide +kernel
theorem prd_Y_limitsHold_31 : decode prb_Y_limitsHold 31 = .ok (.iload_n 1, 1) := by decide +kernel
theorem prd_Y_limitsHold_32 : decode prb_Y_limitsHold 32 = .ok (.invokevirtual 79, 3) := by decide +kernel
theorem prd_Y_limitsHold_35 : decode prb_Y_limitsHold 35 = .ok (.ifCond .eq 7, 3) := by decide +kernel
theorem prd_Y_limitsHold_42 : decode prb_Y_limitsHold 42 = .ok (.iconst 0, 1) := by decide +kernel
theorem prd_Y_tokensHold_0 : decode prb_Y_tokensHold 0 = .ok (.iconst 1, 1) := by decide +kernel
theorem prd_Y_tokensHold_1 : decode prb_Y_tokensHold 1 = .ok (.istore_n 3, 1) := by decide +kernel
theorem prd_Y_tokensHold_2 : decode prb_Y_tokensHold 2 = .ok (.iload_n 2, 1) := by decide +kernel
theorem prd_Y_tokensHold_3 : decode prb_Y_tokensHold 3 = .ok (.istore 4, 2) := by decide +kernel
theorem prd_Y_tokensHold_5 : decode prb_Y_tokensHold 5 = .ok (.iload 4, 2) := by decide +kernel
theorem prd_Y_tokensHold_7 : decode prb_Y_tokensHold 7 = .ok (.aload_n 0, 1) := by decide +kernel
theorem prd_Y_tokensHold_8 : decode prb_Y_tokensHold 8 = .ok (.getfield 27, 3) := by decide +kernel
theorem prd_Y_tokensHold_11 : decode prb_Y_tokensHold 11 = .ok (.invokevirtual 247, 3) := by decide +kernel
theorem prd_Y_tokensHold_14 : decode prb_Y_tokensHold 14 = .ok (.if_icmp .ge 121, 3) := by decide +kernel
theorem prd_Y_tokensHold_135 : decode prb_Y_tokensHold 135 = .ok (.iload_n 3, 1) := by decide +kernel
theorem prd_Y_tokensHold_136 : decode prb_Y_tokensHold 136 = .ok (.ireturn, 1) := by decide +kernel
theorem prd_Y_tokensHold_17 : decode prb_Y_tokensHold 17 = .ok (.iload_n 3, 1) := by decide +kernel
theorem prd_Y_tokensHold_18 : decode prb_Y_tokensHold 18 = .ok (.ifCond .eq 117, 3) := by decide +kernel
theorem prd_Y_tokensHold_21 : decode prb_Y_tokensHold 21 = .ok (.aload_n 0, 1) := by decide +kernel
theorem prd_Y_tokensHold_22 : decode prb_Y_tokensHold 22 = .ok (.getfield 27, 3) := by decide +kernel
theorem prd_Y_tokensHold_25 : decode prb_Y_tokensHold 25 = .ok (.iload 4, 2) := by decide +kernel
theorem prd_Y_tokensHold_27 : decode prb_Y_tokensHold 27 = .ok (.invokevirtual 189, 3) := by decide +kernel
theorem prd_Y_tokensHold_30 : decode prb_Y_tokensHold 30 = .ok (.istore 5, 2) := by decide +kernel
theorem prd_Y_tokensHold_32 : decode prb_Y_tokensHold 32 = .ok (.iload 5, 2) := by decide +kernel
theorem prd_Y_tokensHold_34 : decode prb_Y_tokensHold 34 = .ok (.bipush 19, 2) := by decide +kernel
theorem prd_Y_tokensHold_36 : decode prb_Y_tokensHold 36 = .ok (.if_icmp .eq 10, 3) := by decide +kernel
theorem prd_Y_tokensHold_46 : decode prb_Y_tokensHold 46 = .ok (.iconst 1, 1) := by decide +kernel
theorem prd_Y_tokensHold_47 : decode prb_Y_tokensHold 47 = .ok (.ireturn, 1) := by decide +kernel
theorem prd_Y_tokensHold_39 : decode prb_Y_tokensHold 39 = .ok (.iload 5, 2) := by decide +kernel
theorem prd_Y_tokensHold_41 : decode prb_Y_tokensHold 41 = .ok (.bipush 14, 2) := by decide +kernel
theorem prd_Y_tokensHold_43 : decode prb_Y_tokensHold 43 = .ok (.if_icmp .ne 5, 3) := by decide +kernel
theorem prd_Y_tokensHold_48 : decode prb_Y_tokensHold 48 = .ok (.aload_n 0, 1) := by decide +kernel
theorem prd_Y_tokensHold_49 : decode prb_Y_tokensHold 49 = .ok (.getfield 27, 3) := by decide +kernel
theorem prd_Y_tokensHold_52 : decode prb_Y_tokensHold 52 = .ok (.iload 4, 2) := by decide +kernel
theorem prd_Y_tokensHold_54 : decode prb_Y_tokensHold 54 = .ok (.iconst 1, 1) := by decide +kernel
theorem prd_Y_tokensHold_55 : decode prb_Y_tokensHold 55 = .ok (.iadd, 1) := by decide +kernel
theorem prd_Y_tokensHold_56 : decode prb_Y_tokensHold 56 = .ok (.invokevirtual 189, 3) := by decide +kernel
theorem prd_Y_tokensHold_59 : decode prb_Y_tokensHold 59 = .ok (.istore 6, 2) := by decide +kernel
theorem prd_Y_tokensHold_61 : decode prb_Y_tokensHold 61 = .ok (.iload 5, 2) := by decide +kernel
theorem prd_Y_tokensHold_63 : decode prb_Y_tokensHold 63 = .ok (.iconst 2, 1) := by decide +kernel
theorem prd_Y_tokensHold_64 : decode prb_Y_tokensHold 64 = .ok (.if_icmp .ne 42, 3) := by decide +kernel
theorem prd_Y_tokensHold_106 : decode prb_Y_tokensHold 106 = .ok (.iload 5, 2) := by decide +kernel
theorem prd_Y_tokensHold_108 : decode prb_Y_tokensHold 108 = .ok (.bipush 11, 2) := by decide +kernel
theorem prd_Y_tokensHold_110 : decode prb_Y_tokensHold 110 = .ok (.if_icmp .ne 19, 3) := by decide +kernel
theorem prd_Y_tokensHold_129 : decode prb_Y_tokensHold 129 = .ok (.iinc 4 1, 3) := by decide +kernel
theorem prd_Y_tokensHold_132 : decode prb_Y_tokensHold 132 = .ok (.goto (-127), 3) := by decide +kernel
theorem prd_Y_tokensHold_113 : decode prb_Y_tokensHold 113 = .ok (.iload 6, 2) := by decide +kernel
theorem prd_Y_tokensHold_115 : decode prb_Y_tokensHold 115 = .ok (.bipush 12, 2) := by decide +kernel
theorem prd_Y_tokensHold_117 : decode prb_Y_tokensHold 117 = .ok (.if_icmp .ne 12, 3) := by decide +kernel
theorem prd_Y_tokensHold_120 : decode prb_Y_tokensHold 120 = .ok (.aload_n 0, 1) := by decide +kernel
theorem prd_Y_tokensHold_121 : decode prb_Y_tokensHold 121 = .ok (.iload 4, 2) := by decide +kernel
theorem prd_Y_tokensHold_123 : decode prb_Y_tokensHold 123 = .ok (.iconst 2, 1) := by decide +kernel
theorem prd_Y_tokensHold_124 : decode prb_Y_tokensHold 124 = .ok (.iadd, 1) := by decide +kernel
theorem prd_Y_tokensHold_125 : decode prb_Y_tokensHold 125 = .ok (.invokevirtual 255, 3) := by decide +kernel
theorem prd_Y_tokensHold_128 : decode prb_Y_tokensHold 128 = .ok (.istore_n 3, 1) := by decide +kernel
theorem prd_Y_tokensHold_67 : decode prb_Y_tokensHold 67 = .ok (.iload 6, 2) := by decide +kernel
theorem prd_Y_tokensHold_69 : decode prb_Y_tokensHold 69 = .ok (.bipush 12, 2) := by decide +kernel
theorem prd_Y_tokensHold_71 : decode prb_Y_tokensHold 71 = .ok (.if_icmp .ne 13, 3) := by decide +kernel
theorem prd_Y_tokensHold_84 : decode prb_Y_tokensHold 84 = .ok (.aload_n 0, 1) := by decide +kernel
theorem prd_Y_tokensHold_85 : decode prb_Y_tokensHold 85 = .ok (.iload 4, 2) := by decide +kernel
theorem prd_Y_tokensHold_87 : decode prb_Y_tokensHold 87 = .ok (.iload 6, 2) := by decide +kernel
theorem prd_Y_tokensHold_89 : decode prb_Y_tokensHold 89 = .ok (.bipush 16, 2) := by decide +kernel
theorem prd_Y_tokensHold_91 : decode prb_Y_tokensHold 91 = .ok (.if_icmp .ne 7, 3) := by decide +kernel
theorem prd_Y_tokensHold_98 : decode prb_Y_tokensHold 98 = .ok (.iconst 0, 1) := by decide +kernel
theorem prd_Y_tokensHold_99 : decode prb_Y_tokensHold 99 = .ok (.invokevirtual 251, 3) := by decide +kernel
theorem prd_Y_tokensHold_102 : decode prb_Y_tokensHold 102 = .ok (.istore_n 3, 1) := by decide +kernel
theorem prd_Y_tokensHold_103 : decode prb_Y_tokensHold 103 = .ok (.goto 26, 3) := by decide +kernel
theorem prd_Y_tokensHold_94 : decode prb_Y_tokensHold 94 = .ok (.iconst 1, 1) := by decide +kernel
theorem prd_Y_tokensHold_95 : decode prb_Y_tokensHold 95 = .ok (.goto 4, 3) := by decide +kernel
theorem prd_Y_tokensHold_74 : decode prb_Y_tokensHold 74 = .ok (.aload_n 0, 1) := by decide +kernel
theorem prd_Y_tokensHold_75 : decode prb_Y_tokensHold 75 = .ok (.iload_n 1, 1) := by decide +kernel
theorem prd_Y_tokensHold_76 : decode prb_Y_tokensHold 76 = .ok (.iload 4, 2) := by decide +kernel
theorem prd_Y_tokensHold_78 : decode prb_Y_tokensHold 78 = .ok (.invokevirtual 248, 3) := by decide +kernel
theorem prd_Y_tokensHold_81 : decode prb_Y_tokensHold 81 = .ok (.goto 21, 3) := by decide +kernel
theorem prd_Y_parametersHold_0 : decode prb_Y_parametersHold 0 = .ok (.iconst 1, 1) := by decide +kernel
theorem prd_Y_parametersHold_1 : decode prb_Y_parametersHold 1 = .ok (.istore_n 1, 1) := by decide +kernel
theorem prd_Y_parametersHold_2 : decode prb_Y_parametersHold 2 = .ok (.iload_n 1, 1) := by decide +kernel
theorem prd_Y_parametersHold_3 : decode prb_Y_parametersHold 3 = .ok (.aload_n 0, 1) := by decide +kernel
theorem prd_Y_parametersHold_4 : decode prb_Y_parametersHold 4 = .ok (.getfield 31, 3) := by decide +kernel
theorem prd_Y_parametersHold_7 : decode prb_Y_parametersHold 7 = .ok (.aload_n 0, 1) := by decide +kernel
theorem prd_Y_parametersHold_8 : decode prb_Y_parametersHold 8 = .ok (.getfield 210, 3) := by decide +kernel
theorem prd_Y_parametersHold_11 : decode prb_Y_parametersHold 11 = .ok (.invokevirtual 72, 3) := by decide +kernel
theorem prd_Y_parametersHold_14 : decode prb_Y_parametersHold 14 = .ok (.if_icmp .ge 65, 3) := by decide +kernel
theorem prd_Y_parametersHold_79 : decode prb_Y_parametersHold 79 = .ok (.iconst 1, 1) := by decide +kernel
theorem prd_Y_parametersHold_80 : decode prb_Y_parametersHold 80 = .ok (.ireturn, 1) := by decide +kernel
theorem prd_Y_parametersHold_17 : decode prb_Y_parametersHold 17 = .ok (.aload_n 0, 1) := by decide +kernel
theorem prd_Y_parametersHold_18 : decode prb_Y_parametersHold 18 = .ok (.getfield 31, 3) := by decide +kernel
theorem prd_Y_parametersHold_21 : decode prb_Y_parametersHold 21 = .ok (.aload_n 0, 1) := by decide +kernel
theorem prd_Y_parametersHold_22 : decode prb_Y_parametersHold 22 = .ok (.getfield 210, 3) := by decide +kernel
theorem prd_Y_parametersHold_25 : decode prb_Y_parametersHold 25 = .ok (.iload_n 1, 1) := by decide +kernel
theorem prd_Y_parametersHold_26 : decode prb_Y_parametersHold 26 = .ok (.invokevirtual 213, 3) := by decide +kernel
theorem prd_Y_parametersHold_29 : decode prb_Y_parametersHold 29 = .ok (.istore_n 2, 1) := by decide +kernel
theorem prd_Y_parametersHold_30 : decode prb_Y_parametersHold 30 = .ok (.iconst 0, 1) := by decide +kernel
theorem prd_Y_parametersHold_31 : decode prb_Y_parametersHold 31 = .ok (.istore_n 3, 1) := by decide +kernel
theorem prd_Y_parametersHold_32 : decode prb_Y_parametersHold 32 = .ok (.iload_n 3, 1) := by decide +kernel
theorem prd_Y_parametersHold_33 : decode prb_Y_parametersHold 33 = .ok (.iload_n 1, 1) := by decide +kernel
theorem prd_Y_parametersHold_34 : decode prb_Y_parametersHold 34 = .ok (.if_icmp .ge 39, 3) := by decide +kernel
theorem prd_Y_parametersHold_73 : decode prb_Y_parametersHold 73 = .ok (.iinc 1 1, 3) := by decide +kernel
theorem prd_Y_parametersHold_76 : decode prb_Y_parametersHold 76 = .ok (.goto (-74), 3) := by decide +kernel
theorem prd_Y_parametersHold_37 : decode prb_Y_parametersHold 37 = .ok (.aload_n 0, 1) := by decide +kernel
theorem prd_Y_parametersHold_38 : decode prb_Y_parametersHold 38 = .ok (.getfield 27, 3) := by decide +kernel
theorem prd_Y_parametersHold_41 : decode prb_Y_parametersHold 41 = .ok (.iload_n 2, 1) := by decide +kernel
theorem prd_Y_parametersHold_42 : decode prb_Y_parametersHold 42 = .ok (.aload_n 0, 1) := by decide +kernel
theorem prd_Y_parametersHold_43 : decode prb_Y_parametersHold 43 = .ok (.getfield 31, 3) := by decide +kernel
theorem prd_Y_parametersHold_46 : decode prb_Y_parametersHold 46 = .ok (.aload_n 0, 1) := by decide +kernel
theorem prd_Y_parametersHold_47 : decode prb_Y_parametersHold 47 = .ok (.getfield 210, 3) := by decide +kernel
theorem prd_Y_parametersHold_50 : decode prb_Y_parametersHold 50 = .ok (.iload_n 3, 1) := by decide +kernel
theorem prd_Y_parametersHold_51 : decode prb_Y_parametersHold 51 = .ok (.invokevirtual 213, 3) := by decide +kernel
theorem prd_Y_parametersHold_54 : decode prb_Y_parametersHold 54 = .ok (.invokevirtual 277, 3) := by decide +kernel
theorem prd_Y_parametersHold_57 : decode prb_Y_parametersHold 57 = .ok (.ifCond .eq 10, 3) := by decide +kernel
theorem prd_Y_parametersHold_67 : decode prb_Y_parametersHold 67 = .ok (.iinc 3 1, 3) := by decide +kernel
theorem prd_Y_parametersHold_70 : decode prb_Y_parametersHold 70 = .ok (.goto (-38), 3) := by decide +kernel
theorem prd_Y_parametersHold_60 : decode prb_Y_parametersHold 60 = .ok (.aload_n 0, 1) := by decide +kernel
theorem prd_Y_parametersHold_61 : decode prb_Y_parametersHold 61 = .ok (.iconst 2, 1) := by decide +kernel
theorem prd_Y_parametersHold_62 : decode prb_Y_parametersHold 62 = .ok (.iload_n 2, 1) := by decide +kernel
theorem prd_Y_parametersHold_63 : decode prb_Y_parametersHold 63 = .ok (.invokevirtual 79, 3) := by decide +kernel
theorem prd_Y_parametersHold_66 : decode prb_Y_parametersHold 66 = .ok (.ireturn, 1) := by decide +kernel
theorem prd_Y_thereIsRoom_0 : decode prb_Y_thereIsRoom 0 = .ok (.iload_n 1, 1) := by decide +kernel
theorem prd_Y_thereIsRoom_1 : decode prb_Y_thereIsRoom 1 = .ok (.iconst 1, 1) := by decide +kernel
theorem prd_Y_thereIsRoom_2 : decode prb_Y_thereIsRoom 2 = .ok (.if_icmp .ne 46, 3) := by decide +kernel
theorem prd_Y_thereIsRoom_5 : decode prb_Y_thereIsRoom 5 = .ok (.aload_n 0, 1) := by decide +kernel
theorem prd_Y_thereIsRoom_6 : decode prb_Y_thereIsRoom 6 = .ok (.getfield 27, 3) := by decide +kernel
theorem prd_Y_thereIsRoom_9 : decode prb_Y_thereIsRoom 9 = .ok (.iload_n 2, 1) := by decide +kernel
theorem prd_Y_thereIsRoom_10 : decode prb_Y_thereIsRoom 10 = .ok (.iconst 2, 1) := by decide +kernel
theorem prd_Y_thereIsRoom_11 : decode prb_Y_thereIsRoom 11 = .ok (.iadd, 1) := by decide +kernel
theorem prd_Y_thereIsRoom_12 : decode prb_Y_thereIsRoom 12 = .ok (.invokevirtual 189, 3) := by decide +kernel
theorem prd_Y_thereIsRoom_15 : decode prb_Y_thereIsRoom 15 = .ok (.bipush 16, 2) := by decide +kernel
theorem prd_Y_thereIsRoom_17 : decode prb_Y_thereIsRoom 17 = .ok (.if_icmp .ne 31, 3) := by decide +kernel
theorem prd_Y_thereIsRoom_20 : decode prb_Y_thereIsRoom 20 = .ok (.aload_n 0, 1) := by decide +kernel
theorem prd_Y_thereIsRoom_21 : decode prb_Y_thereIsRoom 21 = .ok (.getfield 44, 3) := by decide +kernel
theorem prd_Y_thereIsRoom_24 : decode prb_Y_thereIsRoom 24 = .ok (.invokevirtual 179, 3) := by decide +kernel
theorem prd_Y_thereIsRoom_27 : decode prb_Y_thereIsRoom 27 = .ok (.bipush 6, 2) := by decide +kernel
theorem prd_Y_thereIsRoom_29 : decode prb_Y_thereIsRoom 29 = .ok (.if_icmp .lt 13, 3) := by decide +kernel
theorem prd_Y_thereIsRoom_42 : decode prb_Y_thereIsRoom 42 = .ok (.iconst 1, 1) := by decide +kernel
theorem prd_Y_thereIsRoom_43 : decode prb_Y_thereIsRoom 43 = .ok (.goto 4, 3) := by decide +kernel
theorem prd_Y_thereIsRoom_47 : decode prb_Y_thereIsRoom 47 = .ok (.ireturn, 1) := by decide +kernel
theorem prd_Y_thereIsRoom_32 : decode prb_Y_thereIsRoom 32 = .ok (.aload_n 0, 1) := by decide +kernel
theorem prd_Y_thereIsRoom_33 : decode prb_Y_thereIsRoom 33 = .ok (.bipush 13, 2) := by decide +kernel
theorem prd_Y_thereIsRoom_35 : decode prb_Y_thereIsRoom 35 = .ok (.iload_n 2, 1) := by decide +kernel
theorem prd_Y_thereIsRoom_36 : decode prb_Y_thereIsRoom 36 = .ok (.invokevirtual 79, 3) := by decide +kernel
theorem prd_Y_thereIsRoom_39 : decode prb_Y_thereIsRoom 39 = .ok (.ifCond .eq 7, 3) := by decide +kernel
theorem prd_Y_thereIsRoom_46 : decode prb_Y_thereIsRoom 46 = .ok (.iconst 0, 1) := by decide +kernel
theorem prd_Y_thereIsRoom_48 : decode prb_Y_thereIsRoom 48 = .ok (.iload_n 1, 1) := by decide +kernel
theorem prd_Y_thereIsRoom_49 : decode prb_Y_thereIsRoom 49 = .ok (.iconst 1, 1) := by decide +kernel
theorem prd_Y_thereIsRoom_50 : decode prb_Y_thereIsRoom 50 = .ok (.if_icmp .ne 7, 3) := by decide +kernel
theorem prd_Y_thereIsRoom_57 : decode prb_Y_thereIsRoom 57 = .ok (.aload_n 0, 1) := by decide +kernel
theorem prd_Y_thereIsRoom_58 : decode prb_Y_thereIsRoom 58 = .ok (.getfield 31, 3) := by decide +kernel
theorem prd_Y_thereIsRoom_61 : decode prb_Y_thereIsRoom 61 = .ok (.aload_n 0, 1) := by decide +kernel
theorem prd_Y_thereIsRoom_62 : decode prb_Y_thereIsRoom 62 = .ok (.getfield 210, 3) := by decide +kernel
theorem prd_Y_thereIsRoom_65 : decode prb_Y_thereIsRoom 65 = .ok (.invokevirtual 72, 3) := by decide +kernel
theorem prd_Y_thereIsRoom_68 : decode prb_Y_thereIsRoom 68 = .ok (.istore_n 3, 1) := by decide +kernel
theorem prd_Y_thereIsRoom_69 : decode prb_Y_thereIsRoom 69 = .ok (.aload_n 0, 1) := by decide +kernel
theorem prd_Y_thereIsRoom_70 : decode prb_Y_thereIsRoom 70 = .ok (.getfield 44, 3) := by decide +kernel
theorem prd_Y_thereIsRoom_73 : decode prb_Y_thereIsRoom 73 = .ok (.invokevirtual 176, 3) := by decide +kernel
theorem prd_Y_thereIsRoom_76 : decode prb_Y_thereIsRoom 76 = .ok (.iload_n 3, 1) := by decide +kernel
theorem prd_Y_thereIsRoom_77 : decode prb_Y_thereIsRoom 77 = .ok (.iadd, 1) := by decide +kernel
theorem prd_Y_thereIsRoom_78 : decode prb_Y_thereIsRoom 78 = .ok (.bipush 12, 2) := by decide +kernel
theorem prd_Y_thereIsRoom_80 : decode prb_Y_thereIsRoom 80 = .ok (.if_icmp .le 13, 3) := by decide +kernel
theorem prd_Y_thereIsRoom_93 : decode prb_Y_thereIsRoom 93 = .ok (.iconst 1, 1) := by decide +kernel
theorem prd_Y_thereIsRoom_94 : decode prb_Y_thereIsRoom 94 = .ok (.goto 4, 3) := by decide +kernel
theorem prd_Y_thereIsRoom_98 : decode prb_Y_thereIsRoom 98 = .ok (.ireturn, 1) := by decide +kernel
theorem prd_Y_thereIsRoom_83 : decode prb_Y_thereIsRoom 83 = .ok (.aload_n 0, 1) := by decide +kernel
theorem prd_Y_thereIsRoom_84 : decode prb_Y_thereIsRoom 84 = .ok (.bipush 10, 2) := by decide +kernel
theorem prd_Y_thereIsRoom_86 : decode prb_Y_thereIsRoom 86 = .ok (.iload_n 2, 1) := by decide +kernel
theorem prd_Y_thereIsRoom_87 : decode prb_Y_thereIsRoom 87 = .ok (.invokevirtual 79, 3) := by decide +kernel
theorem prd_Y_thereIsRoom_90 : decode prb_Y_thereIsRoom 90 = .ok (.ifCond .eq 7, 3) := by decide +kernel
theorem prd_Y_thereIsRoom_97 : decode prb_Y_thereIsRoom 97 = .ok (.iconst 0, 1) := by decide +kernel
theorem prd_Y_thereIsRoom_53 : decode prb_Y_thereIsRoom 53 = .ok (.iconst 1, 1) := by decide +kernel
theorem prd_Y_thereIsRoom_54 : decode prb_Y_thereIsRoom 54 = .ok (.goto 14, 3) := by decide +kernel
theorem prd_Y_holds_0 : decode prb_Y_holds 0 = .ok (.aload_n 0, 1) := by decide +kernel
theorem prd_Y_holds_1 : decode prb_Y_holds 1 = .ok (.getfield 31, 3) := by decide +kernel
theorem prd_Y_holds_4 : decode prb_Y_holds 4 = .ok (.iload_n 1, 1) := by decide +kernel
theorem prd_Y_holds_5 : decode prb_Y_holds 5 = .ok (.invokevirtual 164, 3) := by decide +kernel
theorem prd_Y_holds_8 : decode prb_Y_holds 8 = .ok (.istore_n 2, 1) := by decide +kernel
theorem prd_Y_holds_9 : decode prb_Y_holds 9 = .ok (.aload_n 0, 1) := by decide +kernel
theorem prd_Y_holds_10 : decode prb_Y_holds 10 = .ok (.getfield 31, 3) := by decide +kernel
theorem prd_Y_holds_13 : decode prb_Y_holds 13 = .ok (.iload_n 1, 1) := by decide +kernel
theorem prd_Y_holds_14 : decode prb_Y_holds 14 = .ok (.invokevirtual 161, 3) := by decide +kernel
theorem prd_Y_holds_17 : decode prb_Y_holds 17 = .ok (.istore_n 3, 1) := by decide +kernel
theorem prd_Y_holds_18 : decode prb_Y_holds 18 = .ok (.aload_n 0, 1) := by decide +kernel
theorem prd_Y_holds_19 : decode prb_Y_holds 19 = .ok (.getfield 35, 3) := by decide +kernel
theorem prd_Y_holds_22 : decode prb_Y_holds 22 = .ok (.invokevirtual 217, 3) := by decide +kernel
theorem prd_Y_holds_25 : decode prb_Y_holds 25 = .ok (.iconst 2, 1) := by decide +kernel
theorem prd_Y_holds_26 : decode prb_Y_holds 26 = .ok (.iadd, 1) := by decide +kernel
theorem prd_Y_holds_27 : decode prb_Y_holds 27 = .ok (.sipush 250, 3) := by decide +kernel
theorem prd_Y_holds_30 : decode prb_Y_holds 30 = .ok (.if_icmp .le 11, 3) := by decide +kernel
theorem prd_Y_holds_41 : decode prb_Y_holds 41 = .ok (.aload_n 0, 1) := by decide +kernel
theorem prd_Y_holds_42 : decode prb_Y_holds 42 = .ok (.iconst (-1), 1) := by decide +kernel
theorem prd_Y_holds_43 : decode prb_Y_holds 43 = .ok (.putfield 210, 3) := by decide +kernel
theorem prd_Y_holds_46 : decode prb_Y_holds 46 = .ok (.aload_n 0, 1) := by decide +kernel
theorem prd_Y_holds_47 : decode prb_Y_holds 47 = .ok (.invokevirtual 220, 3) := by decide +kernel
theorem prd_Y_holds_50 : decode prb_Y_holds 50 = .ok (.iload_n 2, 1) := by decide +kernel
theorem prd_Y_holds_51 : decode prb_Y_holds 51 = .ok (.bipush 8, 2) := by decide +kernel
theorem prd_Y_holds_53 : decode prb_Y_holds 53 = .ok (.if_icmp .ne 14, 3) := by decide +kernel
theorem prd_Y_holds_56 : decode prb_Y_holds 56 = .ok (.aload_n 0, 1) := by decide +kernel
theorem prd_Y_holds_57 : decode prb_Y_holds 57 = .ok (.iload_n 1, 1) := by decide +kernel
theorem prd_Y_holds_58 : decode prb_Y_holds 58 = .ok (.iload_n 3, 1) := by decide +kernel
theorem prd_Y_holds_59 : decode prb_Y_holds 59 = .ok (.invokevirtual 223, 3) := by decide +kernel
theorem prd_Y_holds_62 : decode prb_Y_holds 62 = .ok (.ifCond .ne 5, 3) := by decide +kernel
theorem prd_Y_holds_65 : decode prb_Y_holds 65 = .ok (.iconst 0, 1) := by decide +kernel
theorem prd_Y_holds_66 : decode prb_Y_holds 66 = .ok (.ireturn, 1) := by decide +kernel
theorem prd_Y_holds_33 : decode prb_Y_holds 33 = .ok (.aload_n 0, 1) := by decide +kernel
theorem prd_Y_holds_34 : decode prb_Y_holds 34 = .ok (.bipush 11, 2) := by decide +kernel
theorem prd_Y_holds_36 : decode prb_Y_holds 36 = .ok (.iload_n 3, 1) := by decide +kernel
theorem prd_Y_holds_37 : decode prb_Y_holds 37 = .ok (.invokevirtual 79, 3) := by decide +kernel
theorem prd_Y_holds_40 : decode prb_Y_holds 40 = .ok (.ireturn, 1) := by decide +kernel
theorem prd_Y_holds_67 : decode prb_Y_holds 67 = .ok (.iload_n 2, 1) := by decide +kernel
theorem prd_Y_holds_68 : decode prb_Y_holds 68 = .ok (.iconst 1, 1) := by decide +kernel
theorem prd_Y_holds_69 : decode prb_Y_holds 69 = .ok (.if_icmp .ne 13, 3) := by decide +kernel
theorem prd_Y_holds_72 : decode prb_Y_holds 72 = .ok (.aload_n 0, 1) := by decide +kernel
theorem prd_Y_holds_73 : decode prb_Y_holds 73 = .ok (.iload_n 3, 1) := by decide +kernel
theorem prd_Y_holds_74 : decode prb_Y_holds 74 = .ok (.invokevirtual 226, 3) := by decide +kernel
theorem prd_Y_holds_77 : decode prb_Y_holds 77 = .ok (.ifCond .ne 5, 3) := by decide +kernel
theorem prd_Y_holds_80 : decode prb_Y_holds 80 = .ok (.iconst 0, 1) := by decide +kernel
theorem prd_Y_holds_81 : decode prb_Y_holds 81 = .ok (.ireturn, 1) := by decide +kernel
theorem prd_Y_holds_82 : decode prb_Y_holds 82 = .ok (.iload_n 2, 1) := by decide +kernel
theorem prd_Y_holds_83 : decode prb_Y_holds 83 = .ok (.iconst 1, 1) := by decide +kernel
theorem prd_Y_holds_84 : decode prb_Y_holds 84 = .ok (.if_icmp .ne 9, 3) := by decide +kernel
theorem prd_Y_holds_93 : decode prb_Y_holds 93 = .ok (.iload_n 3, 1) := by decide +kernel
theorem prd_Y_holds_94 : decode prb_Y_holds 94 = .ok (.istore 4, 2) := by decide +kernel
theorem prd_Y_holds_96 : decode prb_Y_holds 96 = .ok (.aload_n 0, 1) := by decide +kernel
theorem prd_Y_holds_97 : decode prb_Y_holds 97 = .ok (.iload_n 1, 1) := by decide +kernel
theorem prd_Y_holds_98 : decode prb_Y_holds 98 = .ok (.iload 4, 2) := by decide +kernel
theorem prd_Y_holds_100 : decode prb_Y_holds 100 = .ok (.invokevirtual 229, 3) := by decide +kernel
theorem prd_Y_holds_103 : decode prb_Y_holds 103 = .ok (.ifCond .eq 23, 3) := by decide +kernel
theorem prd_Y_holds_126 : decode prb_Y_holds 126 = .ok (.iconst 0, 1) := by decide +kernel
theorem prd_Y_holds_127 : decode prb_Y_holds 127 = .ok (.ireturn, 1) := by decide +kernel
theorem prd_Y_holds_106 : decode prb_Y_holds 106 = .ok (.aload_n 0, 1) := by decide +kernel
theorem prd_Y_holds_107 : decode prb_Y_holds 107 = .ok (.invokevirtual 232, 3) := by decide +kernel
theorem prd_Y_holds_110 : decode prb_Y_holds 110 = .ok (.ifCond .eq 16, 3) := by decide +kernel
theorem prd_Y_holds_113 : decode prb_Y_holds 113 = .ok (.aload_n 0, 1) := by decide +kernel
theorem prd_Y_holds_114 : decode prb_Y_holds 114 = .ok (.iload_n 2, 1) := by decide +kernel
theorem prd_Y_holds_115 : decode prb_Y_holds 115 = .ok (.iload_n 3, 1) := by decide +kernel
theorem prd_Y_holds_116 : decode prb_Y_holds 116 = .ok (.invokevirtual 235, 3) := by decide +kernel
theorem prd_Y_holds_119 : decode prb_Y_holds 119 = .ok (.ifCond .eq 7, 3) := by decide +kernel
theorem prd_Y_holds_122 : decode prb_Y_holds 122 = .ok (.iconst 1, 1) := by decide +kernel
theorem prd_Y_holds_123 : decode prb_Y_holds 123 = .ok (.goto 4, 3) := by decide +kernel
theorem prd_Y_holds_87 : decode prb_Y_holds 87 = .ok (.iload_n 3, 1) := by decide +kernel
theorem prd_Y_holds_88 : decode prb_Y_holds 88 = .ok (.iconst 2, 1) := by decide +kernel
theorem prd_Y_holds_89 : decode prb_Y_holds 89 = .ok (.iadd, 1) := by decide +kernel
theorem prd_Y_holds_90 : decode prb_Y_holds 90 = .ok (.goto 4, 3) := by decide +kernel
theorem prd_Y_layCall_0 : decode prb_Y_layCall 0 = .ok (.aload_n 0, 1) := by decide +kernel
theorem prd_Y_layCall_1 : decode prb_Y_layCall 1 = .ok (.getfield 27, 3) := by decide +kernel
theorem prd_Y_layCall_4 : decode prb_Y_layCall 4 = .ok (.iload_n 2, 1) := by decide +kernel
theorem prd_Y_layCall_5 : decode prb_Y_layCall 5 = .ok (.iconst 1, 1) := by decide +kernel
theorem prd_Y_layCall_6 : decode prb_Y_layCall 6 = .ok (.iadd, 1) := by decide +kernel
theorem prd_Y_layCall_7 : decode prb_Y_layCall 7 = .ok (.invokevirtual 189, 3) := by decide +kernel
theorem prd_Y_layCall_10 : decode prb_Y_layCall 10 = .ok (.bipush 20, 2) := by decide +kernel
theorem prd_Y_layCall_12 : decode prb_Y_layCall 12 = .ok (.if_icmp .ne 24, 3) := by decide +kernel
theorem prd_Y_layCall_36 : decode prb_Y_layCall 36 = .ok (.iconst 0, 1) := by decide +kernel
theorem prd_Y_layCall_37 : decode prb_Y_layCall 37 = .ok (.istore_n 3, 1) := by decide +kernel
theorem prd_Y_layCall_15 : decode prb_Y_layCall 15 = .ok (.aload_n 0, 1) := by decide +kernel
theorem prd_Y_layCall_16 : decode prb_Y_layCall 16 = .ok (.getfield 35, 3) := by decide +kernel
theorem prd_Y_layCall_19 : decode prb_Y_layCall 19 = .ok (.iload_n 1, 1) := by decide +kernel
theorem prd_Y_layCall_20 : decode prb_Y_layCall 20 = .ok (.aload_n 0, 1) := by decide +kernel
theorem prd_Y_layCall_21 : decode prb_Y_layCall 21 = .ok (.getfield 152, 3) := by decide +kernel
theorem prd_Y_layCall_24 : decode prb_Y_layCall 24 = .ok (.aload_n 0, 1) := by decide +kernel
theorem prd_Y_layCall_25 : decode prb_Y_layCall 25 = .ok (.getfield 31, 3) := by decide +kernel
theorem prd_Y_layCall_28 : decode prb_Y_layCall 28 = .ok (.iload_n 2, 1) := by decide +kernel
theorem prd_Y_layCall_29 : decode prb_Y_layCall 29 = .ok (.invokevirtual 204, 3) := by decide +kernel
theorem prd_Y_layCall_32 : decode prb_Y_layCall 32 = .ok (.iadd, 1) := by decide +kernel
theorem prd_Y_layCall_33 : decode prb_Y_layCall 33 = .ok (.invokevirtual 207, 3) := by decide +kernel
theorem prd_Y_layCall_38 : decode prb_Y_layCall 38 = .ok (.iload_n 3, 1) := by decide +kernel
theorem prd_Y_layCall_39 : decode prb_Y_layCall 39 = .ok (.aload_n 0, 1) := by decide +kernel
theorem prd_Y_layCall_40 : decode prb_Y_layCall 40 = .ok (.getfield 31, 3) := by decide +kernel
theorem prd_Y_layCall_43 : decode prb_Y_layCall 43 = .ok (.aload_n 0, 1) := by decide +kernel
theorem prd_Y_layCall_44 : decode prb_Y_layCall 44 = .ok (.getfield 210, 3) := by decide +kernel
theorem prd_Y_layCall_47 : decode prb_Y_layCall 47 = .ok (.invokevirtual 72, 3) := by decide +kernel
theorem prd_Y_layCall_50 : decode prb_Y_layCall 50 = .ok (.if_icmp .ge 29, 3) := by decide +kernel
theorem prd_Y_layCall_79 : decode prb_Y_layCall 79 = .ok (.aload_n 0, 1) := by decide +kernel
theorem prd_Y_layCall_80 : decode prb_Y_layCall 80 = .ok (.aload_n 0, 1) := by decide +kernel
theorem prd_Y_layCall_81 : decode prb_Y_layCall 81 = .ok (.getfield 210, 3) := by decide +kernel
theorem prd_Y_layCall_84 : decode prb_Y_layCall 84 = .ok (.iload_n 1, 1) := by decide +kernel
theorem prd_Y_layCall_85 : decode prb_Y_layCall 85 = .ok (.invokevirtual 83, 3) := by decide +kernel
theorem prd_Y_layCall_88 : decode prb_Y_layCall 88 = .ok (.return_, 1) := by decide +kernel
theorem prd_Y_layCall_53 : decode prb_Y_layCall 53 = .ok (.aload_n 0, 1) := by decide +kernel
theorem prd_Y_layCall_54 : decode prb_Y_layCall 54 = .ok (.getfield 44, 3) := by decide +kernel
theorem prd_Y_layCall_57 : decode prb_Y_layCall 57 = .ok (.aload_n 0, 1) := by decide +kernel
theorem prd_Y_layCall_58 : decode prb_Y_layCall 58 = .ok (.getfield 31, 3) := by decide +kernel
theorem prd_Y_layCall_61 : decode prb_Y_layCall 61 = .ok (.aload_n 0, 1) := by decide +kernel
theorem prd_Y_layCall_62 : decode prb_Y_layCall 62 = .ok (.getfield 210, 3) := by decide +kernel
theorem prd_Y_layCall_65 : decode prb_Y_layCall 65 = .ok (.iload_n 3, 1) := by decide +kernel
theorem prd_Y_layCall_66 : decode prb_Y_layCall 66 = .ok (.invokevirtual 213, 3) := by decide +kernel
theorem prd_Y_layCall_69 : decode prb_Y_layCall 69 = .ok (.iconst 0, 1) := by decide +kernel
theorem prd_Y_layCall_70 : decode prb_Y_layCall 70 = .ok (.invokevirtual 192, 3) := by decide +kernel
theorem prd_Y_layCall_73 : decode prb_Y_layCall 73 = .ok (.iinc 3 1, 3) := by decide +kernel
theorem prd_Y_layCall_76 : decode prb_Y_layCall 76 = .ok (.goto (-38), 3) := by decide +kernel
theorem prd_Y_layStatement_0 : decode prb_Y_layStatement 0 = .ok (.aload_n 0, 1) := by decide +kernel
theorem prd_Y_layStatement_1 : decode prb_Y_layStatement 1 = .ok (.getfield 31, 3) := by decide +kernel
theorem prd_Y_layStatement_4 : decode prb_Y_layStatement 4 = .ok (.iload_n 1, 1) := by decide +kernel
theorem prd_Y_layStatement_5 : decode prb_Y_layStatement 5 = .ok (.invokevirtual 161, 3) := by decide +kernel
theorem prd_Y_layStatement_8 : decode prb_Y_layStatement 8 = .ok (.istore_n 2, 1) := by decide +kernel
theorem prd_Y_layStatement_9 : decode prb_Y_layStatement 9 = .ok (.aload_n 0, 1) := by decide +kernel
theorem prd_Y_layStatement_10 : decode prb_Y_layStatement 10 = .ok (.getfield 35, 3) := by decide +kernel
theorem prd_Y_layStatement_13 : decode prb_Y_layStatement 13 = .ok (.aload_n 0, 1) := by decide +kernel
theorem prd_Y_layStatement_14 : decode prb_Y_layStatement 14 = .ok (.getfield 31, 3) := by decide +kernel
theorem prd_Y_layStatement_17 : decode prb_Y_layStatement 17 = .ok (.iload_n 1, 1) := by decide +kernel
theorem prd_Y_layStatement_18 : decode prb_Y_layStatement 18 = .ok (.invokevirtual 164, 3) := by decide +kernel
theorem prd_Y_layStatement_21 : decode prb_Y_layStatement 21 = .ok (.aload_n 0, 1) := by decide +kernel
theorem prd_Y_layStatement_22 : decode prb_Y_layStatement 22 = .ok (.getfield 27, 3) := by decide +kernel
theorem prd_Y_layStatement_25 : decode prb_Y_layStatement 25 = .ok (.iload_n 2, 1) := by decide +kernel
theorem prd_Y_layStatement_26 : decode prb_Y_layStatement 26 = .ok (.invokevirtual 106, 3) := by decide +kernel
theorem prd_Y_layStatement_29 : decode prb_Y_layStatement 29 = .ok (.iload_n 1, 1) := by decide +kernel
theorem prd_Y_layStatement_30 : decode prb_Y_layStatement 30 = .ok (.invokevirtual 165, 3) := by decide +kernel
theorem prd_Y_layStatement_33 : decode prb_Y_layStatement 33 = .ok (.istore_n 3, 1) := by decide +kernel
theorem prd_Y_layStatement_34 : decode prb_Y_layStatement 34 = .ok (.aload_n 0, 1) := by decide +kernel
theorem prd_Y_layStatement_35 : decode prb_Y_layStatement 35 = .ok (.getfield 35, 3) := by decide +kernel
theorem prd_Y_layStatement_38 : decode prb_Y_layStatement 38 = .ok (.iload_n 3, 1) := by decide +kernel
theorem prd_Y_layStatement_39 : decode prb_Y_layStatement 39 = .ok (.aload_n 0, 1) := by decide +kernel
theorem prd_Y_layStatement_40 : decode prb_Y_layStatement 40 = .ok (.invokevirtual 118, 3) := by decide +kernel
theorem prd_Y_layStatement_43 : decode prb_Y_layStatement 43 = .ok (.aload_n 0, 1) := by decide +kernel
theorem prd_Y_layStatement_44 : decode prb_Y_layStatement 44 = .ok (.iload_n 1, 1) := by decide +kernel
theorem prd_Y_layStatement_45 : decode prb_Y_layStatement 45 = .ok (.invokevirtual 169, 3) := by decide +kernel
theorem prd_Y_layStatement_48 : decode prb_Y_layStatement 48 = .ok (.invokevirtual 172, 3) := by decide +kernel
theorem prd_Y_layStatement_51 : decode prb_Y_layStatement 51 = .ok (.aload_n 0, 1) := by decide +kernel
theorem prd_Y_layStatement_52 : decode prb_Y_layStatement 52 = .ok (.getfield 35, 3) := by decide +kernel
theorem prd_Y_layStatement_55 : decode prb_Y_layStatement 55 = .ok (.iload_n 3, 1) := by decide +kernel
theorem prd_Y_layStatement_56 : decode prb_Y_layStatement 56 = .ok (.aload_n 0, 1) := by decide +kernel
theorem prd_Y_layStatement_57 : decode prb_Y_layStatement 57 = .ok (.getfield 44, 3) := by decide +kernel
theorem prd_Y_layStatement_60 : decode prb_Y_layStatement 60 = .ok (.invokevirtual 176, 3) := by decide +kernel
theorem prd_Y_layStatement_63 : decode prb_Y_layStatement 63 = .ok (.aload_n 0, 1) := by decide +kernel
theorem prd_Y_layStatement_64 : decode prb_Y_layStatement 64 = .ok (.getfield 44, 3) := by decide +kernel
theorem prd_Y_layStatement_67 : decode prb_Y_layStatement 67 = .ok (.invokevirtual 179, 3) := by decide +kernel
theorem prd_Y_layStatement_70 : decode prb_Y_layStatement 70 = .ok (.invokevirtual 182, 3) := by decide +kernel
theorem prd_Y_layStatement_73 : decode prb_Y_layStatement 73 = .ok (.aload_n 0, 1) := by decide +kernel
theorem prd_Y_layStatement_74 : decode prb_Y_layStatement 74 = .ok (.getfield 35, 3) := by decide +kernel
theorem prd_Y_layStatement_77 : decode prb_Y_layStatement 77 = .ok (.iload_n 3, 1) := by decide +kernel
theorem prd_Y_layStatement_78 : decode prb_Y_layStatement 78 = .ok (.aload_n 0, 1) := by decide +kernel
theorem prd_Y_layStatement_79 : decode prb_Y_layStatement 79 = .ok (.getfield 152, 3) := by decide +kernel
theorem prd_Y_layStatement_82 : decode prb_Y_layStatement 82 = .ok (.aload_n 0, 1) := by decide +kernel
theorem prd_Y_layStatement_83 : decode prb_Y_layStatement 83 = .ok (.getfield 158, 3) := by decide +kernel
theorem prd_Y_layStatement_86 : decode prb_Y_layStatement 86 = .ok (.invokevirtual 186, 3) := by decide +kernel
theorem prd_Y_layStatement_89 : decode prb_Y_layStatement 89 = .ok (.aload_n 0, 1) := by decide +kernel
theorem prd_Y_layStatement_90 : decode prb_Y_layStatement 90 = .ok (.getfield 31, 3) := by decide +kernel
theorem prd_Y_layStatement_93 : decode prb_Y_layStatement 93 = .ok (.iload_n 1, 1) := by decide +kernel
theorem prd_Y_layStatement_94 : decode prb_Y_layStatement 94 = .ok (.invokevirtual 164, 3) := by decide +kernel
theorem prd_Y_layStatement_97 : decode prb_Y_layStatement 97 = .ok (.tableswitch 143 1 6 #[39, 143, 143, 134, 72, 103], 39) := by decide +kernel
theorem prd_Y_layStatement_136 : decode prb_Y_layStatement 136 = .ok (.aload_n 0, 1) := by decide +kernel
theorem prd_Y_layStatement_137 : decode prb_Y_layStatement 137 = .ok (.getfield 44, 3) := by decide +kernel
theorem prd_Y_layStatement_140 : decode prb_Y_layStatement 140 = .ok (.iload_n 2, 1) := by decide +kernel
theorem prd_Y_layStatement_141 : decode prb_Y_layStatement 141 = .ok (.iconst 1, 1) := by decide +kernel
theorem prd_Y_layStatement_142 : decode prb_Y_layStatement 142 = .ok (.iadd, 1) := by decide +kernel
theorem prd_Y_layStatement_143 : decode prb_Y_layStatement 143 = .ok (.aload_n 0, 1) := by decide +kernel
theorem prd_Y_layStatement_144 : decode prb_Y_layStatement 144 = .ok (.getfield 27, 3) := by decide +kernel
theorem prd_Y_layStatement_147 : decode prb_Y_layStatement 147 = .ok (.iload_n 2, 1) := by decide +kernel
theorem prd_Y_layStatement_148 : decode prb_Y_layStatement 148 = .ok (.iconst 2, 1) := by decide +kernel
theorem prd_Y_layStatement_149 : decode prb_Y_layStatement 149 = .ok (.iadd, 1) := by decide +kernel
theorem prd_Y_layStatement_150 : decode prb_Y_layStatement 150 = .ok (.invokevirtual 189, 3) := by decide +kernel
theorem prd_Y_layStatement_153 : decode prb_Y_layStatement 153 = .ok (.bipush 16, 2) := by decide +kernel
theorem prd_Y_layStatement_155 : decode prb_Y_layStatement 155 = .ok (.if_icmp .ne 7, 3) := by decide +kernel
theorem prd_Y_layStatement_162 : decode prb_Y_layStatement 162 = .ok (.iconst 0, 1) := by decide +kernel
theorem prd_Y_layStatement_163 : decode prb_Y_layStatement 163 = .ok (.invokevirtual 192, 3) := by decide +kernel
theorem prd_Y_layStatement_166 : decode prb_Y_layStatement 166 = .ok (.goto 74, 3) := by decide +kernel
theorem prd_Y_layStatement_240 : decode prb_Y_layStatement 240 = .ok (.return_, 1) := by decide +kernel
theorem prd_Y_layStatement_158 : decode prb_Y_layStatement 158 = .ok (.iconst 1, 1) := by decide +kernel
theorem prd_Y_layStatement_159 : decode prb_Y_layStatement 159 = .ok (.goto 4, 3) := by decide +kernel
theorem prd_Y_layStatement_231 : decode prb_Y_layStatement 231 = .ok (.aload_n 0, 1) := by decide +kernel
theorem prd_Y_layStatement_232 : decode prb_Y_layStatement 232 = .ok (.iload_n 3, 1) := by decide +kernel
theorem prd_Y_layStatement_233 : decode prb_Y_layStatement 233 = .ok (.iload_n 2, 1) := by decide +kernel
theorem prd_Y_layStatement_234 : decode prb_Y_layStatement 234 = .ok (.invokevirtual 201, 3) := by decide +kernel
theorem prd_Y_layStatement_237 : decode prb_Y_layStatement 237 = .ok (.goto 3, 3) := by decide +kernel
theorem prd_Y_layStatement_169 : decode prb_Y_layStatement 169 = .ok (.aload_n 0, 1) := by decide +kernel
theorem prd_Y_layStatement_170 : decode prb_Y_layStatement 170 = .ok (.iload_n 3, 1) := by decide +kernel
theorem prd_Y_layStatement_171 : decode prb_Y_layStatement 171 = .ok (.aload_n 0, 1) := by decide +kernel
theorem prd_Y_layStatement_172 : decode prb_Y_layStatement 172 = .ok (.invokevirtual 195, 3) := by decide +kernel
theorem prd_Y_layStatement_175 : decode prb_Y_layStatement 175 = .ok (.iload_n 1, 1) := by decide +kernel
theorem prd_Y_layStatement_176 : decode prb_Y_layStatement 176 = .ok (.iconst 1, 1) := by decide +kernel
theorem prd_Y_layStatement_177 : decode prb_Y_layStatement 177 = .ok (.iadd, 1) := by decide +kernel
theorem prd_Y_layStatement_178 : decode prb_Y_layStatement 178 = .ok (.aload_n 0, 1) := by decide +kernel
theorem prd_Y_layStatement_179 : decode prb_Y_layStatement 179 = .ok (.getfield 31, 3) := by decide +kernel
theorem prd_Y_layStatement_182 : decode prb_Y_layStatement 182 = .ok (.iload_n 1, 1) := by decide +kernel
theorem prd_Y_layStatement_183 : decode prb_Y_layStatement 183 = .ok (.invokevirtual 198, 3) := by decide +kernel
theorem prd_Y_layStatement_186 : decode prb_Y_layStatement 186 = .ok (.aload_n 0, 1) := by decide +kernel
theorem prd_Y_layStatement_187 : decode prb_Y_layStatement 187 = .ok (.getfield 31, 3) := by decide +kernel
theorem prd_Y_layStatement_190 : decode prb_Y_layStatement 190 = .ok (.iload_n 1, 1) := by decide +kernel
theorem prd_Y_layStatement_191 : decode prb_Y_layStatement 191 = .ok (.invokevirtual 115, 3) := by decide +kernel
theorem prd_Y_layStatement_194 : decode prb_Y_layStatement 194 = .ok (.invokevirtual 139, 3) := by decide +kernel
theorem prd_Y_layStatement_197 : decode prb_Y_layStatement 197 = .ok (.goto 43, 3) := by decide +kernel
theorem prd_Y_layStatement_200 : decode prb_Y_layStatement 200 = .ok (.aload_n 0, 1) := by decide +kernel
theorem prd_Y_layStatement_201 : decode prb_Y_layStatement 201 = .ok (.iload_n 3, 1) := by decide +kernel
theorem prd_Y_layStatement_202 : decode prb_Y_layStatement 202 = .ok (.aload_n 0, 1) := by decide +kernel
theorem prd_Y_layStatement_203 : decode prb_Y_layStatement 203 = .ok (.invokevirtual 195, 3) := by decide +kernel
theorem prd_Y_layStatement_206 : decode prb_Y_layStatement 206 = .ok (.iload_n 1, 1) := by decide +kernel
theorem prd_Y_layStatement_207 : decode prb_Y_layStatement 207 = .ok (.iconst 1, 1) := by decide +kernel
theorem prd_Y_layStatement_208 : decode prb_Y_layStatement 208 = .ok (.iadd, 1) := by decide +kernel
theorem prd_Y_layStatement_209 : decode prb_Y_layStatement 209 = .ok (.aload_n 0, 1) := by decide +kernel
theorem prd_Y_layStatement_210 : decode prb_Y_layStatement 210 = .ok (.getfield 31, 3) := by decide +kernel
theorem prd_Y_layStatement_213 : decode prb_Y_layStatement 213 = .ok (.iload_n 1, 1) := by decide +kernel
theorem prd_Y_layStatement_214 : decode prb_Y_layStatement 214 = .ok (.invokevirtual 115, 3) := by decide +kernel
theorem prd_Y_layStatement_217 : decode prb_Y_layStatement 217 = .ok (.aload_n 0, 1) := by decide +kernel
theorem prd_Y_layStatement_218 : decode prb_Y_layStatement 218 = .ok (.getfield 31, 3) := by decide +kernel
theorem prd_Y_layStatement_221 : decode prb_Y_layStatement 221 = .ok (.iload_n 1, 1) := by decide +kernel
theorem prd_Y_layStatement_222 : decode prb_Y_layStatement 222 = .ok (.invokevirtual 115, 3) := by decide +kernel
theorem prd_Y_layStatement_225 : decode prb_Y_layStatement 225 = .ok (.invokevirtual 139, 3) := by decide +kernel
theorem prd_Y_layStatement_228 : decode prb_Y_layStatement 228 = .ok (.goto 12, 3) := by decide +kernel
theorem prd_Y_layProgram_0 : decode prb_Y_layProgram 0 = .ok (.aload_n 0, 1) := by decide +kernel
theorem prd_Y_layProgram_1 : decode prb_Y_layProgram 1 = .ok (.getfield 35, 3) := by decide +kernel
theorem prd_Y_layProgram_4 : decode prb_Y_layProgram 4 = .ok (.invokevirtual 55, 3) := by decide +kernel
theorem prd_Y_layProgram_7 : decode prb_Y_layProgram 7 = .ok (.aload_n 0, 1) := by decide +kernel
theorem prd_Y_layProgram_8 : decode prb_Y_layProgram 8 = .ok (.getfield 44, 3) := by decide +kernel
theorem prd_Y_layProgram_11 : decode prb_Y_layProgram 11 = .ok (.iconst 0, 1) := by decide +kernel
theorem prd_Y_layProgram_12 : decode prb_Y_layProgram 12 = .ok (.iconst 0, 1) := by decide +kernel
theorem prd_Y_layProgram_13 : decode prb_Y_layProgram 13 = .ok (.invokevirtual 60, 3) := by decide +kernel
theorem prd_Y_layProgram_16 : decode prb_Y_layProgram 16 = .ok (.aload_n 0, 1) := by decide +kernel
theorem prd_Y_layProgram_17 : decode prb_Y_layProgram 17 = .ok (.iconst 0, 1) := by decide +kernel
theorem prd_Y_layProgram_18 : decode prb_Y_layProgram 18 = .ok (.putfield 64, 3) := by decide +kernel
theorem prd_Y_layProgram_21 : decode prb_Y_layProgram 21 = .ok (.aload_n 0, 1) := by decide +kernel
theorem prd_Y_layProgram_22 : decode prb_Y_layProgram 22 = .ok (.getfield 31, 3) := by decide +kernel
theorem prd_Y_layProgram_25 : decode prb_Y_layProgram 25 = .ok (.invokevirtual 67, 3) := by decide +kernel
theorem prd_Y_layProgram_28 : decode prb_Y_layProgram 28 = .ok (.iconst 1, 1) := by decide +kernel
theorem prd_Y_layProgram_29 : decode prb_Y_layProgram 29 = .ok (.isub, 1) := by decide +kernel
theorem prd_Y_layProgram_30 : decode prb_Y_layProgram 30 = .ok (.istore_n 1, 1) := by decide +kernel
theorem prd_Y_layProgram_31 : decode prb_Y_layProgram 31 = .ok (.aload_n 0, 1) := by decide +kernel
theorem prd_Y_layProgram_32 : decode prb_Y_layProgram 32 = .ok (.getfield 31, 3) := by decide +kernel
theorem prd_Y_layProgram_35 : decode prb_Y_layProgram 35 = .ok (.iload_n 1, 1) := by decide +kernel
theorem prd_Y_layProgram_36 : decode prb_Y_layProgram 36 = .ok (.invokevirtual 72, 3) := by decide +kernel
theorem prd_Y_layProgram_39 : decode prb_Y_layProgram 39 = .ok (.ifCond .le 18, 3) := by decide +kernel
theorem prd_Y_layProgram_57 : decode prb_Y_layProgram 57 = .ok (.aload_n 0, 1) := by decide +kernel
theorem prd_Y_layProgram_58 : decode prb_Y_layProgram 58 = .ok (.iload_n 1, 1) := by decide +kernel
theorem prd_Y_layProgram_59 : decode prb_Y_layProgram 59 = .ok (.iconst (-1), 1) := by decide +kernel
theorem prd_Y_layProgram_60 : decode prb_Y_layProgram 60 = .ok (.invokevirtual 83, 3) := by decide +kernel
theorem prd_Y_layProgram_63 : decode prb_Y_layProgram 63 = .ok (.iconst 0, 1) := by decide +kernel
theorem prd_Y_layProgram_64 : decode prb_Y_layProgram 64 = .ok (.istore_n 2, 1) := by decide +kernel
theorem prd_Y_layProgram_42 : decode prb_Y_layProgram 42 = .ok (.aload_n 0, 1) := by decide +kernel
theorem prd_Y_layProgram_43 : decode prb_Y_layProgram 43 = .ok (.bipush 7, 2) := by decide +kernel
theorem prd_Y_layProgram_45 : decode prb_Y_layProgram 45 = .ok (.aload_n 0, 1) := by decide +kernel
theorem prd_Y_layProgram_46 : decode prb_Y_layProgram 46 = .ok (.getfield 31, 3) := by decide +kernel
theorem prd_Y_layProgram_49 : decode prb_Y_layProgram 49 = .ok (.iload_n 1, 1) := by decide +kernel
theorem prd_Y_layProgram_50 : decode prb_Y_layProgram 50 = .ok (.invokevirtual 76, 3) := by decide +kernel
theorem prd_Y_layProgram_53 : decode prb_Y_layProgram 53 = .ok (.invokevirtual 79, 3) := by decide +kernel
theorem prd_Y_layProgram_56 : decode prb_Y_layProgram 56 = .ok (.ireturn, 1) := by decide +kernel
theorem prd_Y_layProgram_65 : decode prb_Y_layProgram 65 = .ok (.iload_n 2, 1) := by decide +kernel
theorem prd_Y_layProgram_66 : decode prb_Y_layProgram 66 = .ok (.sipush 1000, 3) := by decide +kernel
theorem prd_Y_layProgram_69 : decode prb_Y_layProgram 69 = .ok (.if_icmp .ge 61, 3) := by decide +kernel
theorem prd_Y_layProgram_130 : decode prb_Y_layProgram 130 = .ok (.aload_n 0, 1) := by decide +kernel
theorem prd_Y_layProgram_131 : decode prb_Y_layProgram 131 = .ok (.getfield 35, 3) := by decide +kernel
theorem prd_Y_layProgram_134 : decode prb_Y_layProgram 134 = .ok (.invokevirtual 103, 3) := by decide +kernel
theorem prd_Y_layProgram_137 : decode prb_Y_layProgram 137 = .ok (.iconst 1, 1) := by decide +kernel
theorem prd_Y_layProgram_138 : decode prb_Y_layProgram 138 = .ok (.ireturn, 1) := by decide +kernel
theorem prd_Y_layProgram_72 : decode prb_Y_layProgram 72 = .ok (.aload_n 0, 1) := by decide +kernel
theorem prd_Y_layProgram_73 : decode prb_Y_layProgram 73 = .ok (.getfield 64, 3) := by decide +kernel
theorem prd_Y_layProgram_76 : decode prb_Y_layProgram 76 = .ok (.ifCond .le 54, 3) := by decide +kernel
theorem prd_Y_layProgram_79 : decode prb_Y_layProgram 79 = .ok (.aload_n 0, 1) := by decide +kernel
theorem prd_Y_layProgram_80 : decode prb_Y_layProgram 80 = .ok (.aload_n 0, 1) := by decide +kernel
theorem prd_Y_layProgram_81 : decode prb_Y_layProgram 81 = .ok (.getfield 64, 3) := by decide +kernel
theorem prd_Y_layProgram_84 : decode prb_Y_layProgram 84 = .ok (.iconst 1, 1) := by decide +kernel
theorem prd_Y_layProgram_85 : decode prb_Y_layProgram 85 = .ok (.isub, 1) := by decide +kernel
theorem prd_Y_layProgram_86 : decode prb_Y_layProgram 86 = .ok (.putfield 86, 3) := by decide +kernel
theorem prd_Y_layProgram_89 : decode prb_Y_layProgram 89 = .ok (.aload_n 0, 1) := by decide +kernel
theorem prd_Y_layProgram_90 : decode prb_Y_layProgram 90 = .ok (.invokevirtual 89, 3) := by decide +kernel
theorem prd_Y_layProgram_93 : decode prb_Y_layProgram 93 = .ok (.istore_n 3, 1) := by decide +kernel
theorem prd_Y_layProgram_94 : decode prb_Y_layProgram 94 = .ok (.iload_n 3, 1) := by decide +kernel
theorem prd_Y_layProgram_95 : decode prb_Y_layProgram 95 = .ok (.iconst (-1), 1) := by decide +kernel
theorem prd_Y_layProgram_96 : decode prb_Y_layProgram 96 = .ok (.if_icmp .ne 10, 3) := by decide +kernel
theorem prd_Y_layProgram_106 : decode prb_Y_layProgram 106 = .ok (.aload_n 0, 1) := by decide +kernel
theorem prd_Y_layProgram_107 : decode prb_Y_layProgram 107 = .ok (.iload_n 3, 1) := by decide +kernel
theorem prd_Y_layProgram_108 : decode prb_Y_layProgram 108 = .ok (.invokevirtual 95, 3) := by decide +kernel
theorem prd_Y_layProgram_111 : decode prb_Y_layProgram 111 = .ok (.ifCond .eq 11, 3) := by decide +kernel
theorem prd_Y_layProgram_122 : decode prb_Y_layProgram 122 = .ok (.iconst 0, 1) := by decide +kernel
theorem prd_Y_layProgram_123 : decode prb_Y_layProgram 123 = .ok (.ireturn, 1) := by decide +kernel
theorem prd_Y_layProgram_114 : decode prb_Y_layProgram 114 = .ok (.aload_n 0, 1) := by decide +kernel
theorem prd_Y_layProgram_115 : decode prb_Y_layProgram 115 = .ok (.iload_n 3, 1) := by decide +kernel
theorem prd_Y_layProgram_116 : decode prb_Y_layProgram 116 = .ok (.invokevirtual 99, 3) := by decide +kernel
theorem prd_Y_layProgram_119 : decode prb_Y_layProgram 119 = .ok (.goto 5, 3) := by decide +kernel
theorem prd_Y_layProgram_124 : decode prb_Y_layProgram 124 = .ok (.iinc 2 1, 3) := by decide +kernel
theorem prd_Y_layProgram_127 : decode prb_Y_layProgram 127 = .ok (.goto (-62), 3) := by decide +kernel
theorem prd_Y_layProgram_99 : decode prb_Y_layProgram 99 = .ok (.aload_n 0, 1) := by decide +kernel
theorem prd_Y_layProgram_100 : decode prb_Y_layProgram 100 = .ok (.invokevirtual 92, 3) := by decide +kernel
theorem prd_Y_layProgram_103 : decode prb_Y_layProgram 103 = .ok (.goto 21, 3) := by decide +kernel
theorem prd_Y_whatIsWrong_0 : decode prb_Y_whatIsWrong 0 = .ok (.aload_n 0, 1) := by decide +kernel
theorem prd_Y_whatIsWrong_1 : decode prb_Y_whatIsWrong 1 = .ok (.getfield 48, 3) := by decide +kernel
theorem prd_Y_whatIsWrong_4 : decode prb_Y_whatIsWrong 4 = .ok (.ireturn, 1) := by decide +kernel
theorem prd_Y_whereItIs_0 : decode prb_Y_whereItIs 0 = .ok (.aload_n 0, 1) := by decide +kernel
theorem prd_Y_whereItIs_1 : decode prb_Y_whereItIs 1 = .ok (.getfield 52, 3) := by decide +kernel
theorem prd_Y_whereItIs_4 : decode prb_Y_whereItIs 4 = .ok (.ireturn, 1) := by decide +kernel

/-! DECODE ROWS -/
theorem prd_O_clear_0 : decode prb_O_clear 0 = .ok (.aload_n 0, 1) := by decide +kernel
theorem prd_O_clear_1 : decode prb_O_clear 1 = .ok (.iconst 0, 1) := by decide +kernel
theorem prd_O_clear_2 : decode prb_O_clear 2 = .ok (.putfield 56, 3) := by decide +kernel
theorem prd_O_clear_5 : decode prb_O_clear 5 = .ok (.return_, 1) := by decide +kernel
theorem prd_O_add_0 : decode prb_O_add 0 = .ok (.aload_n 0, 1) := by decide +kernel
theorem prd_O_add_1 : decode prb_O_add 1 = .ok (.getfield 56, 3) := by decide +kernel
theorem prd_O_add_4 : decode prb_O_add 4 = .ok (.aload_n 0, 1) := by decide +kernel
theorem prd_O_add_5 : decode prb_O_add 5 = .ok (.getfield 9, 3) := by decide +kernel
theorem prd_O_add_8 : decode prb_O_add 8 = .ok (.arraylength, 1) := by decide +kernel
theorem prd_O_add_9 : decode prb_O_add 9 = .ok (.if_icmp .lt 5, 3) := by decide +kernel
theorem prd_O_add_14 : decode prb_O_add 14 = .ok (.aload_n 0, 1) := by decide +kernel
theorem prd_O_add_15 : decode prb_O_add 15 = .ok (.getfield 56, 3) := by decide +kernel
theorem prd_O_add_18 : decode prb_O_add 18 = .ok (.istore 4, 2) := by decide +kernel
theorem prd_O_add_20 : decode prb_O_add 20 = .ok (.aload_n 0, 1) := by decide +kernel
theorem prd_O_add_21 : decode prb_O_add 21 = .ok (.getfield 9, 3) := by decide +kernel
theorem prd_O_add_24 : decode prb_O_add 24 = .ok (.iload 4, 2) := by decide +kernel
theorem prd_O_add_26 : decode prb_O_add 26 = .ok (.iload_n 1, 1) := by decide +kernel
theorem prd_O_add_27 : decode prb_O_add 27 = .ok (.i2b, 1) := by decide +kernel
theorem prd_O_add_28 : decode prb_O_add 28 = .ok (.bastore, 1) := by decide +kernel
theorem prd_O_add_29 : decode prb_O_add 29 = .ok (.aload_n 0, 1) := by decide +kernel
theorem prd_O_add_30 : decode prb_O_add 30 = .ok (.getfield 15, 3) := by decide +kernel
theorem prd_O_add_33 : decode prb_O_add 33 = .ok (.iload 4, 2) := by decide +kernel
theorem prd_O_add_35 : decode prb_O_add 35 = .ok (.iload_n 2, 1) := by decide +kernel
theorem prd_O_add_36 : decode prb_O_add 36 = .ok (.iastore, 1) := by decide +kernel
theorem prd_O_add_37 : decode prb_O_add 37 = .ok (.aload_n 0, 1) := by decide +kernel
theorem prd_O_add_38 : decode prb_O_add 38 = .ok (.getfield 19, 3) := by decide +kernel
theorem prd_O_add_41 : decode prb_O_add 41 = .ok (.iload 4, 2) := by decide +kernel
theorem prd_O_add_43 : decode prb_O_add 43 = .ok (.iload_n 3, 1) := by decide +kernel
theorem prd_O_add_44 : decode prb_O_add 44 = .ok (.iastore, 1) := by decide +kernel
theorem prd_O_add_45 : decode prb_O_add 45 = .ok (.aload_n 0, 1) := by decide +kernel
theorem prd_O_add_46 : decode prb_O_add 46 = .ok (.getfield 41, 3) := by decide +kernel
theorem prd_O_add_49 : decode prb_O_add 49 = .ok (.iload 4, 2) := by decide +kernel
theorem prd_O_add_51 : decode prb_O_add 51 = .ok (.iconst (-1), 1) := by decide +kernel
theorem prd_O_add_52 : decode prb_O_add 52 = .ok (.iastore, 1) := by decide +kernel
theorem prd_O_add_53 : decode prb_O_add 53 = .ok (.aload_n 0, 1) := by decide +kernel
theorem prd_O_add_54 : decode prb_O_add 54 = .ok (.getfield 44, 3) := by decide +kernel
theorem prd_O_add_57 : decode prb_O_add 57 = .ok (.iload 4, 2) := by decide +kernel
theorem prd_O_add_59 : decode prb_O_add 59 = .ok (.iload 4, 2) := by decide +kernel
theorem prd_O_add_61 : decode prb_O_add 61 = .ok (.iconst 1, 1) := by decide +kernel
theorem prd_O_add_62 : decode prb_O_add 62 = .ok (.iadd, 1) := by decide +kernel
theorem prd_O_add_63 : decode prb_O_add 63 = .ok (.iastore, 1) := by decide +kernel
theorem prd_O_add_64 : decode prb_O_add 64 = .ok (.aload_n 0, 1) := by decide +kernel
theorem prd_O_add_65 : decode prb_O_add 65 = .ok (.getfield 47, 3) := by decide +kernel
theorem prd_O_add_68 : decode prb_O_add 68 = .ok (.iload 4, 2) := by decide +kernel
theorem prd_O_add_70 : decode prb_O_add 70 = .ok (.iconst (-1), 1) := by decide +kernel
theorem prd_O_add_71 : decode prb_O_add 71 = .ok (.iastore, 1) := by decide +kernel
theorem prd_O_add_72 : decode prb_O_add 72 = .ok (.aload_n 0, 1) := by decide +kernel
theorem prd_O_add_73 : decode prb_O_add 73 = .ok (.getfield 50, 3) := by decide +kernel
theorem prd_O_add_76 : decode prb_O_add 76 = .ok (.iload 4, 2) := by decide +kernel
theorem prd_O_add_78 : decode prb_O_add 78 = .ok (.iconst (-1), 1) := by decide +kernel
theorem prd_O_add_79 : decode prb_O_add 79 = .ok (.iastore, 1) := by decide +kernel
theorem prd_O_add_80 : decode prb_O_add 80 = .ok (.aload_n 0, 1) := by decide +kernel
theorem prd_O_add_81 : decode prb_O_add 81 = .ok (.dup, 1) := by decide +kernel
theorem prd_O_add_82 : decode prb_O_add 82 = .ok (.getfield 56, 3) := by decide +kernel
theorem prd_O_add_85 : decode prb_O_add 85 = .ok (.iconst 1, 1) := by decide +kernel
theorem prd_O_add_86 : decode prb_O_add 86 = .ok (.iadd, 1) := by decide +kernel
theorem prd_O_add_87 : decode prb_O_add 87 = .ok (.putfield 56, 3) := by decide +kernel
theorem prd_O_add_90 : decode prb_O_add 90 = .ok (.iload 4, 2) := by decide +kernel
theorem prd_O_add_92 : decode prb_O_add 92 = .ok (.ireturn, 1) := by decide +kernel
theorem prd_O_add_12 : decode prb_O_add 12 = .ok (.iconst (-1), 1) := by decide +kernel
theorem prd_O_add_13 : decode prb_O_add 13 = .ok (.ireturn, 1) := by decide +kernel
theorem prd_O_isPoint_0 : decode prb_O_isPoint 0 = .ok (.iload_n 1, 1) := by decide +kernel
theorem prd_O_isPoint_1 : decode prb_O_isPoint 1 = .ok (.ifCond .lt 15, 3) := by decide +kernel
theorem prd_O_isPoint_16 : decode prb_O_isPoint 16 = .ok (.iconst 0, 1) := by decide +kernel
theorem prd_O_isPoint_17 : decode prb_O_isPoint 17 = .ok (.ireturn, 1) := by decide +kernel
theorem prd_O_isPoint_4 : decode prb_O_isPoint 4 = .ok (.iload_n 1, 1) := by decide +kernel
theorem prd_O_isPoint_5 : decode prb_O_isPoint 5 = .ok (.aload_n 0, 1) := by decide +kernel
theorem prd_O_isPoint_6 : decode prb_O_isPoint 6 = .ok (.getfield 56, 3) := by decide +kernel
theorem prd_O_isPoint_9 : decode prb_O_isPoint 9 = .ok (.if_icmp .ge 7, 3) := by decide +kernel
theorem prd_O_isPoint_12 : decode prb_O_isPoint 12 = .ok (.iconst 1, 1) := by decide +kernel
theorem prd_O_isPoint_13 : decode prb_O_isPoint 13 = .ok (.goto 4, 3) := by decide +kernel
theorem prd_O_setParent_0 : decode prb_O_setParent 0 = .ok (.aload_n 0, 1) := by decide +kernel
theorem prd_O_setParent_1 : decode prb_O_setParent 1 = .ok (.iload_n 1, 1) := by decide +kernel
theorem prd_O_setParent_2 : decode prb_O_setParent 2 = .ok (.invokevirtual 66, 3) := by decide +kernel
theorem prd_O_setParent_5 : decode prb_O_setParent 5 = .ok (.ifCond .eq 17, 3) := by decide +kernel
theorem prd_O_setParent_22 : decode prb_O_setParent 22 = .ok (.return_, 1) := by decide +kernel
theorem prd_O_setParent_8 : decode prb_O_setParent 8 = .ok (.aload_n 0, 1) := by decide +kernel
theorem prd_O_setParent_9 : decode prb_O_setParent 9 = .ok (.getfield 34, 3) := by decide +kernel
theorem prd_O_setParent_12 : decode prb_O_setParent 12 = .ok (.iload_n 1, 1) := by decide +kernel
theorem prd_O_setParent_13 : decode prb_O_setParent 13 = .ok (.iload_n 2, 1) := by decide +kernel
theorem prd_O_setParent_14 : decode prb_O_setParent 14 = .ok (.iastore, 1) := by decide +kernel
theorem prd_O_setParent_15 : decode prb_O_setParent 15 = .ok (.aload_n 0, 1) := by decide +kernel
theorem prd_O_setParent_16 : decode prb_O_setParent 16 = .ok (.getfield 37, 3) := by decide +kernel
theorem prd_O_setParent_19 : decode prb_O_setParent 19 = .ok (.iload_n 1, 1) := by decide +kernel
theorem prd_O_setParent_20 : decode prb_O_setParent 20 = .ok (.iload_n 3, 1) := by decide +kernel
theorem prd_O_setParent_21 : decode prb_O_setParent 21 = .ok (.bastore, 1) := by decide +kernel
theorem prd_O_setThere_0 : decode prb_O_setThere 0 = .ok (.aload_n 0, 1) := by decide +kernel
theorem prd_O_setThere_1 : decode prb_O_setThere 1 = .ok (.iload_n 1, 1) := by decide +kernel
theorem prd_O_setThere_2 : decode prb_O_setThere 2 = .ok (.invokevirtual 66, 3) := by decide +kernel
theorem prd_O_setThere_5 : decode prb_O_setThere 5 = .ok (.ifCond .eq 17, 3) := by decide +kernel
theorem prd_O_setThere_22 : decode prb_O_setThere 22 = .ok (.return_, 1) := by decide +kernel
theorem prd_O_setThere_8 : decode prb_O_setThere 8 = .ok (.aload_n 0, 1) := by decide +kernel
theorem prd_O_setThere_9 : decode prb_O_setThere 9 = .ok (.getfield 22, 3) := by decide +kernel
theorem prd_O_setThere_12 : decode prb_O_setThere 12 = .ok (.iload_n 1, 1) := by decide +kernel
theorem prd_O_setThere_13 : decode prb_O_setThere 13 = .ok (.iload_n 2, 1) := by decide +kernel
theorem prd_O_setThere_14 : decode prb_O_setThere 14 = .ok (.iastore, 1) := by decide +kernel
theorem prd_O_setThere_15 : decode prb_O_setThere 15 = .ok (.aload_n 0, 1) := by decide +kernel
theorem prd_O_setThere_16 : decode prb_O_setThere 16 = .ok (.getfield 25, 3) := by decide +kernel
theorem prd_O_setThere_19 : decode prb_O_setThere 19 = .ok (.iload_n 1, 1) := by decide +kernel
theorem prd_O_setThere_20 : decode prb_O_setThere 20 = .ok (.iload_n 3, 1) := by decide +kernel
theorem prd_O_setThere_21 : decode prb_O_setThere 21 = .ok (.iastore, 1) := by decide +kernel
theorem prd_O_setForeign_0 : decode prb_O_setForeign 0 = .ok (.aload_n 0, 1) := by decide +kernel
theorem prd_O_setForeign_1 : decode prb_O_setForeign 1 = .ok (.iload_n 1, 1) := by decide +kernel
theorem prd_O_setForeign_2 : decode prb_O_setForeign 2 = .ok (.invokevirtual 66, 3) := by decide +kernel
theorem prd_O_setForeign_5 : decode prb_O_setForeign 5 = .ok (.ifCond .eq 17, 3) := by decide +kernel
theorem prd_O_setForeign_22 : decode prb_O_setForeign 22 = .ok (.return_, 1) := by decide +kernel
theorem prd_O_setForeign_8 : decode prb_O_setForeign 8 = .ok (.aload_n 0, 1) := by decide +kernel
theorem prd_O_setForeign_9 : decode prb_O_setForeign 9 = .ok (.getfield 28, 3) := by decide +kernel
theorem prd_O_setForeign_12 : decode prb_O_setForeign 12 = .ok (.iload_n 1, 1) := by decide +kernel
theorem prd_O_setForeign_13 : decode prb_O_setForeign 13 = .ok (.iload_n 2, 1) := by decide +kernel
theorem prd_O_setForeign_14 : decode prb_O_setForeign 14 = .ok (.iastore, 1) := by decide +kernel
theorem prd_O_setForeign_15 : decode prb_O_setForeign 15 = .ok (.aload_n 0, 1) := by decide +kernel
theorem prd_O_setForeign_16 : decode prb_O_setForeign 16 = .ok (.getfield 31, 3) := by decide +kernel
theorem prd_O_setForeign_19 : decode prb_O_setForeign 19 = .ok (.iload_n 1, 1) := by decide +kernel
theorem prd_O_setForeign_20 : decode prb_O_setForeign 20 = .ok (.iload_n 3, 1) := by decide +kernel
theorem prd_O_setForeign_21 : decode prb_O_setForeign 21 = .ok (.iastore, 1) := by decide +kernel
theorem prd_O_addTheEnd_0 : decode prb_O_addTheEnd 0 = .ok (.aload_n 0, 1) := by decide +kernel
theorem prd_O_addTheEnd_1 : decode prb_O_addTheEnd 1 = .ok (.iconst 0, 1) := by decide +kernel
theorem prd_O_addTheEnd_2 : decode prb_O_addTheEnd 2 = .ok (.iconst 0, 1) := by decide +kernel
theorem prd_O_addTheEnd_3 : decode prb_O_addTheEnd 3 = .ok (.iconst (-1), 1) := by decide +kernel
theorem prd_O_addTheEnd_4 : decode prb_O_addTheEnd 4 = .ok (.invokevirtual 74, 3) := by decide +kernel
theorem prd_O_addTheEnd_7 : decode prb_O_addTheEnd 7 = .ok (.istore_n 1, 1) := by decide +kernel
theorem prd_O_addTheEnd_8 : decode prb_O_addTheEnd 8 = .ok (.aload_n 0, 1) := by decide +kernel
theorem prd_O_addTheEnd_9 : decode prb_O_addTheEnd 9 = .ok (.iload_n 1, 1) := by decide +kernel
theorem prd_O_addTheEnd_10 : decode prb_O_addTheEnd 10 = .ok (.iconst (-1), 1) := by decide +kernel
theorem prd_O_addTheEnd_11 : decode prb_O_addTheEnd 11 = .ok (.iconst 1, 1) := by decide +kernel
theorem prd_O_addTheEnd_12 : decode prb_O_addTheEnd 12 = .ok (.invokevirtual 78, 3) := by decide +kernel
theorem prd_O_addTheEnd_15 : decode prb_O_addTheEnd 15 = .ok (.aload_n 0, 1) := by decide +kernel
theorem prd_O_addTheEnd_16 : decode prb_O_addTheEnd 16 = .ok (.iload_n 1, 1) := by decide +kernel
theorem prd_O_addTheEnd_17 : decode prb_O_addTheEnd 17 = .ok (.iconst 0, 1) := by decide +kernel
theorem prd_O_addTheEnd_18 : decode prb_O_addTheEnd 18 = .ok (.iconst 0, 1) := by decide +kernel
theorem prd_O_addTheEnd_19 : decode prb_O_addTheEnd 19 = .ok (.invokevirtual 82, 3) := by decide +kernel
theorem prd_O_addTheEnd_22 : decode prb_O_addTheEnd 22 = .ok (.aload_n 0, 1) := by decide +kernel
theorem prd_O_addTheEnd_23 : decode prb_O_addTheEnd 23 = .ok (.iload_n 1, 1) := by decide +kernel
theorem prd_O_addTheEnd_24 : decode prb_O_addTheEnd 24 = .ok (.iconst 0, 1) := by decide +kernel
theorem prd_O_addTheEnd_25 : decode prb_O_addTheEnd 25 = .ok (.iconst 0, 1) := by decide +kernel
theorem prd_O_addTheEnd_26 : decode prb_O_addTheEnd 26 = .ok (.invokevirtual 86, 3) := by decide +kernel
theorem prd_O_addTheEnd_29 : decode prb_O_addTheEnd 29 = .ok (.aload_n 0, 1) := by decide +kernel
theorem prd_O_addTheEnd_30 : decode prb_O_addTheEnd 30 = .ok (.iload_n 1, 1) := by decide +kernel
theorem prd_O_addTheEnd_31 : decode prb_O_addTheEnd 31 = .ok (.invokevirtual 66, 3) := by decide +kernel
theorem prd_O_addTheEnd_34 : decode prb_O_addTheEnd 34 = .ok (.ifCond .eq 10, 3) := by decide +kernel
theorem prd_O_addTheEnd_44 : decode prb_O_addTheEnd 44 = .ok (.return_, 1) := by decide +kernel
theorem prd_O_addTheEnd_37 : decode prb_O_addTheEnd 37 = .ok (.aload_n 0, 1) := by decide +kernel
theorem prd_O_addTheEnd_38 : decode prb_O_addTheEnd 38 = .ok (.getfield 53, 3) := by decide +kernel
theorem prd_O_addTheEnd_41 : decode prb_O_addTheEnd 41 = .ok (.iload_n 1, 1) := by decide +kernel
theorem prd_O_addTheEnd_42 : decode prb_O_addTheEnd 42 = .ok (.iload_n 1, 1) := by decide +kernel
theorem prd_O_addTheEnd_43 : decode prb_O_addTheEnd 43 = .ok (.iastore, 1) := by decide +kernel
theorem prd_O_leaveOnlyTheEnd_0 : decode prb_O_leaveOnlyTheEnd 0 = .ok (.aload_n 0, 1) := by decide +kernel
theorem prd_O_leaveOnlyTheEnd_1 : decode prb_O_leaveOnlyTheEnd 1 = .ok (.invokevirtual 60, 3) := by decide +kernel
theorem prd_O_leaveOnlyTheEnd_4 : decode prb_O_leaveOnlyTheEnd 4 = .ok (.aload_n 0, 1) := by decide +kernel
theorem prd_O_leaveOnlyTheEnd_5 : decode prb_O_leaveOnlyTheEnd 5 = .ok (.invokevirtual 63, 3) := by decide +kernel
theorem prd_O_leaveOnlyTheEnd_8 : decode prb_O_leaveOnlyTheEnd 8 = .ok (.return_, 1) := by decide +kernel
theorem prd_O_goInto_0 : decode prb_O_goInto 0 = .ok (.aload_n 0, 1) := by decide +kernel
theorem prd_O_goInto_1 : decode prb_O_goInto 1 = .ok (.iload_n 1, 1) := by decide +kernel
theorem prd_O_goInto_2 : decode prb_O_goInto 2 = .ok (.invokevirtual 66, 3) := by decide +kernel
theorem prd_O_goInto_5 : decode prb_O_goInto 5 = .ok (.ifCond .eq 12, 3) := by decide +kernel
theorem prd_O_goInto_17 : decode prb_O_goInto 17 = .ok (.return_, 1) := by decide +kernel
theorem prd_O_goInto_8 : decode prb_O_goInto 8 = .ok (.aload_n 0, 1) := by decide +kernel
theorem prd_O_goInto_9 : decode prb_O_goInto 9 = .ok (.getfield 47, 3) := by decide +kernel
theorem prd_O_goInto_12 : decode prb_O_goInto 12 = .ok (.iload_n 1, 1) := by decide +kernel
theorem prd_O_goInto_13 : decode prb_O_goInto 13 = .ok (.iload_n 1, 1) := by decide +kernel
theorem prd_O_goInto_14 : decode prb_O_goInto 14 = .ok (.iconst 1, 1) := by decide +kernel
theorem prd_O_goInto_15 : decode prb_O_goInto 15 = .ok (.iadd, 1) := by decide +kernel
theorem prd_O_goInto_16 : decode prb_O_goInto 16 = .ok (.iastore, 1) := by decide +kernel
theorem prd_O_numbersAt_0 : decode prb_O_numbersAt 0 = .ok (.aload_n 0, 1) := by decide +kernel
theorem prd_O_numbersAt_1 : decode prb_O_numbersAt 1 = .ok (.iload_n 1, 1) := by decide +kernel
theorem prd_O_numbersAt_2 : decode prb_O_numbersAt 2 = .ok (.invokevirtual 66, 3) := by decide +kernel
theorem prd_O_numbersAt_5 : decode prb_O_numbersAt 5 = .ok (.ifCond .eq 12, 3) := by decide +kernel
theorem prd_O_numbersAt_17 : decode prb_O_numbersAt 17 = .ok (.iconst 0, 1) := by decide +kernel
theorem prd_O_numbersAt_18 : decode prb_O_numbersAt 18 = .ok (.ireturn, 1) := by decide +kernel
theorem prd_O_numbersAt_8 : decode prb_O_numbersAt 8 = .ok (.aload_n 0, 1) := by decide +kernel
theorem prd_O_numbersAt_9 : decode prb_O_numbersAt 9 = .ok (.getfield 22, 3) := by decide +kernel
theorem prd_O_numbersAt_12 : decode prb_O_numbersAt 12 = .ok (.iload_n 1, 1) := by decide +kernel
theorem prd_O_numbersAt_13 : decode prb_O_numbersAt 13 = .ok (.iaload, 1) := by decide +kernel
theorem prd_O_numbersAt_14 : decode prb_O_numbersAt 14 = .ok (.goto 4, 3) := by decide +kernel
theorem prd_O_arraysAt_0 : decode prb_O_arraysAt 0 = .ok (.aload_n 0, 1) := by decide +kernel
theorem prd_O_arraysAt_1 : decode prb_O_arraysAt 1 = .ok (.iload_n 1, 1) := by decide +kernel
theorem prd_O_arraysAt_2 : decode prb_O_arraysAt 2 = .ok (.invokevirtual 66, 3) := by decide +kernel
theorem prd_O_arraysAt_5 : decode prb_O_arraysAt 5 = .ok (.ifCond .eq 12, 3) := by decide +kernel
theorem prd_O_arraysAt_17 : decode prb_O_arraysAt 17 = .ok (.iconst 0, 1) := by decide +kernel
theorem prd_O_arraysAt_18 : decode prb_O_arraysAt 18 = .ok (.ireturn, 1) := by decide +kernel
theorem prd_O_arraysAt_8 : decode prb_O_arraysAt 8 = .ok (.aload_n 0, 1) := by decide +kernel
theorem prd_O_arraysAt_9 : decode prb_O_arraysAt 9 = .ok (.getfield 25, 3) := by decide +kernel
theorem prd_O_arraysAt_12 : decode prb_O_arraysAt 12 = .ok (.iload_n 1, 1) := by decide +kernel
theorem prd_O_arraysAt_13 : decode prb_O_arraysAt 13 = .ok (.iaload, 1) := by decide +kernel
theorem prd_O_arraysAt_14 : decode prb_O_arraysAt 14 = .ok (.goto 4, 3) := by decide +kernel
theorem prd_O_beginOther_0 : decode prb_O_beginOther 0 = .ok (.aload_n 0, 1) := by decide +kernel
theorem prd_O_beginOther_1 : decode prb_O_beginOther 1 = .ok (.iload_n 1, 1) := by decide +kernel
theorem prd_O_beginOther_2 : decode prb_O_beginOther 2 = .ok (.invokevirtual 66, 3) := by decide +kernel
theorem prd_O_beginOther_5 : decode prb_O_beginOther 5 = .ok (.ifCond .eq 13, 3) := by decide +kernel
theorem prd_O_beginOther_18 : decode prb_O_beginOther 18 = .ok (.return_, 1) := by decide +kernel
theorem prd_O_beginOther_8 : decode prb_O_beginOther 8 = .ok (.aload_n 0, 1) := by decide +kernel
theorem prd_O_beginOther_9 : decode prb_O_beginOther 9 = .ok (.getfield 50, 3) := by decide +kernel
theorem prd_O_beginOther_12 : decode prb_O_beginOther 12 = .ok (.iload_n 1, 1) := by decide +kernel
theorem prd_O_beginOther_13 : decode prb_O_beginOther 13 = .ok (.aload_n 0, 1) := by decide +kernel
theorem prd_O_beginOther_14 : decode prb_O_beginOther 14 = .ok (.getfield 56, 3) := by decide +kernel
theorem prd_O_beginOther_17 : decode prb_O_beginOther 17 = .ok (.iastore, 1) := by decide +kernel
theorem prd_O_close_0 : decode prb_O_close 0 = .ok (.aload_n 0, 1) := by decide +kernel
theorem prd_O_close_1 : decode prb_O_close 1 = .ok (.iload_n 1, 1) := by decide +kernel
theorem prd_O_close_2 : decode prb_O_close 2 = .ok (.invokevirtual 66, 3) := by decide +kernel
theorem prd_O_close_5 : decode prb_O_close 5 = .ok (.ifCond .eq 13, 3) := by decide +kernel
theorem prd_O_close_18 : decode prb_O_close 18 = .ok (.return_, 1) := by decide +kernel
theorem prd_O_close_8 : decode prb_O_close 8 = .ok (.aload_n 0, 1) := by decide +kernel
theorem prd_O_close_9 : decode prb_O_close 9 = .ok (.getfield 44, 3) := by decide +kernel
theorem prd_O_close_12 : decode prb_O_close 12 = .ok (.iload_n 1, 1) := by decide +kernel
theorem prd_O_close_13 : decode prb_O_close 13 = .ok (.aload_n 0, 1) := by decide +kernel
theorem prd_O_close_14 : decode prb_O_close 14 = .ok (.getfield 56, 3) := by decide +kernel
theorem prd_O_close_17 : decode prb_O_close 17 = .ok (.iastore, 1) := by decide +kernel
theorem prd_O_count_0 : decode prb_O_count 0 = .ok (.aload_n 0, 1) := by decide +kernel
theorem prd_O_count_1 : decode prb_O_count 1 = .ok (.getfield 56, 3) := by decide +kernel
theorem prd_O_count_4 : decode prb_O_count 4 = .ok (.ireturn, 1) := by decide +kernel
theorem prd_O_kindOf_0 : decode prb_O_kindOf 0 = .ok (.aload_n 0, 1) := by decide +kernel
theorem prd_O_kindOf_1 : decode prb_O_kindOf 1 = .ok (.iload_n 1, 1) := by decide +kernel
theorem prd_O_kindOf_2 : decode prb_O_kindOf 2 = .ok (.invokevirtual 66, 3) := by decide +kernel
theorem prd_O_kindOf_5 : decode prb_O_kindOf 5 = .ok (.ifCond .eq 12, 3) := by decide +kernel
theorem prd_O_kindOf_17 : decode prb_O_kindOf 17 = .ok (.iconst 0, 1) := by decide +kernel
theorem prd_O_kindOf_18 : decode prb_O_kindOf 18 = .ok (.ireturn, 1) := by decide +kernel
theorem prd_O_kindOf_8 : decode prb_O_kindOf 8 = .ok (.aload_n 0, 1) := by decide +kernel
theorem prd_O_kindOf_9 : decode prb_O_kindOf 9 = .ok (.getfield 9, 3) := by decide +kernel
theorem prd_O_kindOf_12 : decode prb_O_kindOf 12 = .ok (.iload_n 1, 1) := by decide +kernel
theorem prd_O_kindOf_13 : decode prb_O_kindOf 13 = .ok (.baload, 1) := by decide +kernel
theorem prd_O_kindOf_14 : decode prb_O_kindOf 14 = .ok (.goto 4, 3) := by decide +kernel
theorem prd_O_foreignNumbersAt_0 : decode prb_O_foreignNumbersAt 0 = .ok (.aload_n 0, 1) := by decide +kernel
theorem prd_O_foreignNumbersAt_1 : decode prb_O_foreignNumbersAt 1 = .ok (.iload_n 1, 1) := by decide +kernel
theorem prd_O_foreignNumbersAt_2 : decode prb_O_foreignNumbersAt 2 = .ok (.invokevirtual 66, 3) := by decide +kernel
theorem prd_O_foreignNumbersAt_5 : decode prb_O_foreignNumbersAt 5 = .ok (.ifCond .eq 12, 3) := by decide +kernel
theorem prd_O_foreignNumbersAt_17 : decode prb_O_foreignNumbersAt 17 = .ok (.iconst 0, 1) := by decide +kernel
theorem prd_O_foreignNumbersAt_18 : decode prb_O_foreignNumbersAt 18 = .ok (.ireturn, 1) := by decide +kernel
theorem prd_O_foreignNumbersAt_8 : decode prb_O_foreignNumbersAt 8 = .ok (.aload_n 0, 1) := by decide +kernel
theorem prd_O_foreignNumbersAt_9 : decode prb_O_foreignNumbersAt 9 = .ok (.getfield 28, 3) := by decide +kernel
theorem prd_O_foreignNumbersAt_12 : decode prb_O_foreignNumbersAt 12 = .ok (.iload_n 1, 1) := by decide +kernel
theorem prd_O_foreignNumbersAt_13 : decode prb_O_foreignNumbersAt 13 = .ok (.iaload, 1) := by decide +kernel
theorem prd_O_foreignNumbersAt_14 : decode prb_O_foreignNumbersAt 14 = .ok (.goto 4, 3) := by decide +kernel
theorem prd_O_foreignArraysAt_0 : decode prb_O_foreignArraysAt 0 = .ok (.aload_n 0, 1) := by decide +kernel
theorem prd_O_foreignArraysAt_1 : decode prb_O_foreignArraysAt 1 = .ok (.iload_n 1, 1) := by decide +kernel
theorem prd_O_foreignArraysAt_2 : decode prb_O_foreignArraysAt 2 = .ok (.invokevirtual 66, 3) := by decide +kernel
theorem prd_O_foreignArraysAt_5 : decode prb_O_foreignArraysAt 5 = .ok (.ifCond .eq 12, 3) := by decide +kernel
theorem prd_O_foreignArraysAt_17 : decode prb_O_foreignArraysAt 17 = .ok (.iconst 0, 1) := by decide +kernel
theorem prd_O_foreignArraysAt_18 : decode prb_O_foreignArraysAt 18 = .ok (.ireturn, 1) := by decide +kernel
theorem prd_O_foreignArraysAt_8 : decode prb_O_foreignArraysAt 8 = .ok (.aload_n 0, 1) := by decide +kernel
theorem prd_O_foreignArraysAt_9 : decode prb_O_foreignArraysAt 9 = .ok (.getfield 31, 3) := by decide +kernel
theorem prd_O_foreignArraysAt_12 : decode prb_O_foreignArraysAt 12 = .ok (.iload_n 1, 1) := by decide +kernel
theorem prd_O_foreignArraysAt_13 : decode prb_O_foreignArraysAt 13 = .ok (.iaload, 1) := by decide +kernel
theorem prd_O_foreignArraysAt_14 : decode prb_O_foreignArraysAt 14 = .ok (.goto 4, 3) := by decide +kernel
theorem prd_O_setTarget_0 : decode prb_O_setTarget 0 = .ok (.aload_n 0, 1) := by decide +kernel
theorem prd_O_setTarget_1 : decode prb_O_setTarget 1 = .ok (.iload_n 1, 1) := by decide +kernel
theorem prd_O_setTarget_2 : decode prb_O_setTarget 2 = .ok (.invokevirtual 66, 3) := by decide +kernel
theorem prd_O_setTarget_5 : decode prb_O_setTarget 5 = .ok (.ifCond .eq 10, 3) := by decide +kernel
theorem prd_O_setTarget_15 : decode prb_O_setTarget 15 = .ok (.return_, 1) := by decide +kernel
theorem prd_O_setTarget_8 : decode prb_O_setTarget 8 = .ok (.aload_n 0, 1) := by decide +kernel
theorem prd_O_setTarget_9 : decode prb_O_setTarget 9 = .ok (.getfield 41, 3) := by decide +kernel
theorem prd_O_setTarget_12 : decode prb_O_setTarget 12 = .ok (.iload_n 1, 1) := by decide +kernel
theorem prd_O_setTarget_13 : decode prb_O_setTarget 13 = .ok (.iload_n 2, 1) := by decide +kernel
theorem prd_O_setTarget_14 : decode prb_O_setTarget 14 = .ok (.iastore, 1) := by decide +kernel
theorem prd_O_behindBlock_0 : decode prb_O_behindBlock 0 = .ok (.aload_n 0, 1) := by decide +kernel
theorem prd_O_behindBlock_1 : decode prb_O_behindBlock 1 = .ok (.iload_n 1, 1) := by decide +kernel
theorem prd_O_behindBlock_2 : decode prb_O_behindBlock 2 = .ok (.invokevirtual 66, 3) := by decide +kernel
theorem prd_O_behindBlock_5 : decode prb_O_behindBlock 5 = .ok (.ifCond .ne 5, 3) := by decide +kernel
theorem prd_O_behindBlock_10 : decode prb_O_behindBlock 10 = .ok (.aload_n 0, 1) := by decide +kernel
theorem prd_O_behindBlock_11 : decode prb_O_behindBlock 11 = .ok (.getfield 9, 3) := by decide +kernel
theorem prd_O_behindBlock_14 : decode prb_O_behindBlock 14 = .ok (.iload_n 1, 1) := by decide +kernel
theorem prd_O_behindBlock_15 : decode prb_O_behindBlock 15 = .ok (.baload, 1) := by decide +kernel
theorem prd_O_behindBlock_16 : decode prb_O_behindBlock 16 = .ok (.bipush 6, 2) := by decide +kernel
theorem prd_O_behindBlock_18 : decode prb_O_behindBlock 18 = .ok (.if_icmp .ne 7, 3) := by decide +kernel
theorem prd_O_behindBlock_25 : decode prb_O_behindBlock 25 = .ok (.aload_n 0, 1) := by decide +kernel
theorem prd_O_behindBlock_26 : decode prb_O_behindBlock 26 = .ok (.getfield 53, 3) := by decide +kernel
theorem prd_O_behindBlock_29 : decode prb_O_behindBlock 29 = .ok (.iload_n 1, 1) := by decide +kernel
theorem prd_O_behindBlock_30 : decode prb_O_behindBlock 30 = .ok (.iaload, 1) := by decide +kernel
theorem prd_O_behindBlock_31 : decode prb_O_behindBlock 31 = .ok (.ireturn, 1) := by decide +kernel
theorem prd_O_behindBlock_21 : decode prb_O_behindBlock 21 = .ok (.iload_n 1, 1) := by decide +kernel
theorem prd_O_behindBlock_22 : decode prb_O_behindBlock 22 = .ok (.goto 9, 3) := by decide +kernel
theorem prd_O_behindBlock_8 : decode prb_O_behindBlock 8 = .ok (.iload_n 2, 1) := by decide +kernel
theorem prd_O_behindBlock_9 : decode prb_O_behindBlock 9 = .ok (.ireturn, 1) := by decide +kernel
theorem prd_O_finish_0 : decode prb_O_finish 0 = .ok (.aload_n 0, 1) := by decide +kernel
theorem prd_O_finish_1 : decode prb_O_finish 1 = .ok (.getfield 56, 3) := by decide +kernel
theorem prd_O_finish_4 : decode prb_O_finish 4 = .ok (.istore_n 1, 1) := by decide +kernel
theorem prd_O_finish_5 : decode prb_O_finish 5 = .ok (.aload_n 0, 1) := by decide +kernel
theorem prd_O_finish_6 : decode prb_O_finish 6 = .ok (.invokevirtual 63, 3) := by decide +kernel
theorem prd_O_finish_9 : decode prb_O_finish 9 = .ok (.iconst 0, 1) := by decide +kernel
theorem prd_O_finish_10 : decode prb_O_finish 10 = .ok (.istore_n 2, 1) := by decide +kernel
theorem prd_O_finish_11 : decode prb_O_finish 11 = .ok (.iload_n 2, 1) := by decide +kernel
theorem prd_O_finish_12 : decode prb_O_finish 12 = .ok (.iload_n 1, 1) := by decide +kernel
theorem prd_O_finish_13 : decode prb_O_finish 13 = .ok (.if_icmp .ge 132, 3) := by decide +kernel
theorem prd_O_finish_145 : decode prb_O_finish 145 = .ok (.return_, 1) := by decide +kernel
theorem prd_O_finish_16 : decode prb_O_finish 16 = .ok (.iload_n 2, 1) := by decide +kernel
theorem prd_O_finish_17 : decode prb_O_finish 17 = .ok (.aload_n 0, 1) := by decide +kernel
theorem prd_O_finish_18 : decode prb_O_finish 18 = .ok (.getfield 53, 3) := by decide +kernel
theorem prd_O_finish_21 : decode prb_O_finish 21 = .ok (.arraylength, 1) := by decide +kernel
theorem prd_O_finish_22 : decode prb_O_finish 22 = .ok (.if_icmp .ge 123, 3) := by decide +kernel
theorem prd_O_finish_25 : decode prb_O_finish 25 = .ok (.aload_n 0, 1) := by decide +kernel
theorem prd_O_finish_26 : decode prb_O_finish 26 = .ok (.getfield 53, 3) := by decide +kernel
theorem prd_O_finish_29 : decode prb_O_finish 29 = .ok (.iload_n 2, 1) := by decide +kernel
theorem prd_O_finish_30 : decode prb_O_finish 30 = .ok (.aload_n 0, 1) := by decide +kernel
theorem prd_O_finish_31 : decode prb_O_finish 31 = .ok (.getfield 37, 3) := by decide +kernel
theorem prd_O_finish_34 : decode prb_O_finish 34 = .ok (.iload_n 2, 1) := by decide +kernel
theorem prd_O_finish_35 : decode prb_O_finish 35 = .ok (.baload, 1) := by decide +kernel
theorem prd_O_finish_36 : decode prb_O_finish 36 = .ok (.ifCond .eq 17, 3) := by decide +kernel
theorem prd_O_finish_53 : decode prb_O_finish 53 = .ok (.aload_n 0, 1) := by decide +kernel
theorem prd_O_finish_54 : decode prb_O_finish 54 = .ok (.getfield 44, 3) := by decide +kernel
theorem prd_O_finish_57 : decode prb_O_finish 57 = .ok (.iload_n 2, 1) := by decide +kernel
theorem prd_O_finish_58 : decode prb_O_finish 58 = .ok (.iaload, 1) := by decide +kernel
theorem prd_O_finish_59 : decode prb_O_finish 59 = .ok (.iastore, 1) := by decide +kernel
theorem prd_O_finish_60 : decode prb_O_finish 60 = .ok (.aload_n 0, 1) := by decide +kernel
theorem prd_O_finish_61 : decode prb_O_finish 61 = .ok (.getfield 9, 3) := by decide +kernel
theorem prd_O_finish_64 : decode prb_O_finish 64 = .ok (.iload_n 2, 1) := by decide +kernel
theorem prd_O_finish_65 : decode prb_O_finish 65 = .ok (.baload, 1) := by decide +kernel
theorem prd_O_finish_66 : decode prb_O_finish 66 = .ok (.bipush 6, 2) := by decide +kernel
theorem prd_O_finish_68 : decode prb_O_finish 68 = .ok (.if_icmp .ne 7, 3) := by decide +kernel
theorem prd_O_finish_75 : decode prb_O_finish 75 = .ok (.aload_n 0, 1) := by decide +kernel
theorem prd_O_finish_76 : decode prb_O_finish 76 = .ok (.getfield 53, 3) := by decide +kernel
theorem prd_O_finish_79 : decode prb_O_finish 79 = .ok (.iload_n 2, 1) := by decide +kernel
theorem prd_O_finish_80 : decode prb_O_finish 80 = .ok (.iaload, 1) := by decide +kernel
theorem prd_O_finish_81 : decode prb_O_finish 81 = .ok (.istore_n 3, 1) := by decide +kernel
theorem prd_O_finish_82 : decode prb_O_finish 82 = .ok (.aload_n 0, 1) := by decide +kernel
theorem prd_O_finish_83 : decode prb_O_finish 83 = .ok (.getfield 47, 3) := by decide +kernel
theorem prd_O_finish_86 : decode prb_O_finish 86 = .ok (.iload_n 2, 1) := by decide +kernel
theorem prd_O_finish_87 : decode prb_O_finish 87 = .ok (.aload_n 0, 1) := by decide +kernel
theorem prd_O_finish_88 : decode prb_O_finish 88 = .ok (.getfield 47, 3) := by decide +kernel
theorem prd_O_finish_91 : decode prb_O_finish 91 = .ok (.iload_n 2, 1) := by decide +kernel
theorem prd_O_finish_92 : decode prb_O_finish 92 = .ok (.iaload, 1) := by decide +kernel
theorem prd_O_finish_93 : decode prb_O_finish 93 = .ok (.iconst (-1), 1) := by decide +kernel
theorem prd_O_finish_94 : decode prb_O_finish 94 = .ok (.if_icmp .ne 7, 3) := by decide +kernel
theorem prd_O_finish_101 : decode prb_O_finish 101 = .ok (.aload_n 0, 1) := by decide +kernel
theorem prd_O_finish_102 : decode prb_O_finish 102 = .ok (.getfield 47, 3) := by decide +kernel
theorem prd_O_finish_105 : decode prb_O_finish 105 = .ok (.iload_n 2, 1) := by decide +kernel
theorem prd_O_finish_106 : decode prb_O_finish 106 = .ok (.iaload, 1) := by decide +kernel
theorem prd_O_finish_107 : decode prb_O_finish 107 = .ok (.iastore, 1) := by decide +kernel
theorem prd_O_finish_108 : decode prb_O_finish 108 = .ok (.aload_n 0, 1) := by decide +kernel
theorem prd_O_finish_109 : decode prb_O_finish 109 = .ok (.getfield 50, 3) := by decide +kernel
theorem prd_O_finish_112 : decode prb_O_finish 112 = .ok (.iload_n 2, 1) := by decide +kernel
theorem prd_O_finish_113 : decode prb_O_finish 113 = .ok (.aload_n 0, 1) := by decide +kernel
theorem prd_O_finish_114 : decode prb_O_finish 114 = .ok (.getfield 50, 3) := by decide +kernel
theorem prd_O_finish_117 : decode prb_O_finish 117 = .ok (.iload_n 2, 1) := by decide +kernel
theorem prd_O_finish_118 : decode prb_O_finish 118 = .ok (.iaload, 1) := by decide +kernel
theorem prd_O_finish_119 : decode prb_O_finish 119 = .ok (.iconst (-1), 1) := by decide +kernel
theorem prd_O_finish_120 : decode prb_O_finish 120 = .ok (.if_icmp .ne 12, 3) := by decide +kernel
theorem prd_O_finish_132 : decode prb_O_finish 132 = .ok (.aload_n 0, 1) := by decide +kernel
theorem prd_O_finish_133 : decode prb_O_finish 133 = .ok (.getfield 50, 3) := by decide +kernel
theorem prd_O_finish_136 : decode prb_O_finish 136 = .ok (.iload_n 2, 1) := by decide +kernel
theorem prd_O_finish_137 : decode prb_O_finish 137 = .ok (.iaload, 1) := by decide +kernel
theorem prd_O_finish_138 : decode prb_O_finish 138 = .ok (.iastore, 1) := by decide +kernel
theorem prd_O_finish_139 : decode prb_O_finish 139 = .ok (.iinc 2 1, 3) := by decide +kernel
theorem prd_O_finish_142 : decode prb_O_finish 142 = .ok (.goto (-131), 3) := by decide +kernel
theorem prd_O_finish_123 : decode prb_O_finish 123 = .ok (.aload_n 0, 1) := by decide +kernel
theorem prd_O_finish_124 : decode prb_O_finish 124 = .ok (.getfield 53, 3) := by decide +kernel
theorem prd_O_finish_127 : decode prb_O_finish 127 = .ok (.iload_n 2, 1) := by decide +kernel
theorem prd_O_finish_128 : decode prb_O_finish 128 = .ok (.iaload, 1) := by decide +kernel
theorem prd_O_finish_129 : decode prb_O_finish 129 = .ok (.goto 9, 3) := by decide +kernel
theorem prd_O_finish_97 : decode prb_O_finish 97 = .ok (.iload_n 3, 1) := by decide +kernel
theorem prd_O_finish_98 : decode prb_O_finish 98 = .ok (.goto 9, 3) := by decide +kernel
theorem prd_O_finish_71 : decode prb_O_finish 71 = .ok (.iload_n 2, 1) := by decide +kernel
theorem prd_O_finish_72 : decode prb_O_finish 72 = .ok (.goto 9, 3) := by decide +kernel
theorem prd_O_finish_39 : decode prb_O_finish 39 = .ok (.aload_n 0, 1) := by decide +kernel
theorem prd_O_finish_40 : decode prb_O_finish 40 = .ok (.aload_n 0, 1) := by decide +kernel
theorem prd_O_finish_41 : decode prb_O_finish 41 = .ok (.getfield 34, 3) := by decide +kernel
theorem prd_O_finish_44 : decode prb_O_finish 44 = .ok (.iload_n 2, 1) := by decide +kernel
theorem prd_O_finish_45 : decode prb_O_finish 45 = .ok (.iaload, 1) := by decide +kernel
theorem prd_O_finish_46 : decode prb_O_finish 46 = .ok (.iload_n 1, 1) := by decide +kernel
theorem prd_O_finish_47 : decode prb_O_finish 47 = .ok (.invokevirtual 70, 3) := by decide +kernel
theorem prd_O_finish_50 : decode prb_O_finish 50 = .ok (.goto 9, 3) := by decide +kernel
theorem prd_O_placeOf_0 : decode prb_O_placeOf 0 = .ok (.aload_n 0, 1) := by decide +kernel
theorem prd_O_placeOf_1 : decode prb_O_placeOf 1 = .ok (.iload_n 1, 1) := by decide +kernel
theorem prd_O_placeOf_2 : decode prb_O_placeOf 2 = .ok (.invokevirtual 66, 3) := by decide +kernel
theorem prd_O_placeOf_5 : decode prb_O_placeOf 5 = .ok (.ifCond .eq 12, 3) := by decide +kernel
theorem prd_O_placeOf_17 : decode prb_O_placeOf 17 = .ok (.iconst 0, 1) := by decide +kernel
theorem prd_O_placeOf_18 : decode prb_O_placeOf 18 = .ok (.ireturn, 1) := by decide +kernel
theorem prd_O_placeOf_8 : decode prb_O_placeOf 8 = .ok (.aload_n 0, 1) := by decide +kernel
theorem prd_O_placeOf_9 : decode prb_O_placeOf 9 = .ok (.getfield 15, 3) := by decide +kernel
theorem prd_O_placeOf_12 : decode prb_O_placeOf 12 = .ok (.iload_n 1, 1) := by decide +kernel
theorem prd_O_placeOf_13 : decode prb_O_placeOf 13 = .ok (.iaload, 1) := by decide +kernel
theorem prd_O_placeOf_14 : decode prb_O_placeOf 14 = .ok (.goto 4, 3) := by decide +kernel
theorem prd_O_nextOf_0 : decode prb_O_nextOf 0 = .ok (.aload_n 0, 1) := by decide +kernel
theorem prd_O_nextOf_1 : decode prb_O_nextOf 1 = .ok (.iload_n 1, 1) := by decide +kernel
theorem prd_O_nextOf_2 : decode prb_O_nextOf 2 = .ok (.invokevirtual 66, 3) := by decide +kernel
theorem prd_O_nextOf_5 : decode prb_O_nextOf 5 = .ok (.ifCond .eq 12, 3) := by decide +kernel
theorem prd_O_nextOf_17 : decode prb_O_nextOf 17 = .ok (.iconst (-1), 1) := by decide +kernel
theorem prd_O_nextOf_18 : decode prb_O_nextOf 18 = .ok (.ireturn, 1) := by decide +kernel
theorem prd_O_nextOf_8 : decode prb_O_nextOf 8 = .ok (.aload_n 0, 1) := by decide +kernel
theorem prd_O_nextOf_9 : decode prb_O_nextOf 9 = .ok (.getfield 53, 3) := by decide +kernel
theorem prd_O_nextOf_12 : decode prb_O_nextOf 12 = .ok (.iload_n 1, 1) := by decide +kernel
theorem prd_O_nextOf_13 : decode prb_O_nextOf 13 = .ok (.iaload, 1) := by decide +kernel
theorem prd_O_nextOf_14 : decode prb_O_nextOf 14 = .ok (.goto 4, 3) := by decide +kernel
theorem prd_O_statementOf_0 : decode prb_O_statementOf 0 = .ok (.aload_n 0, 1) := by decide +kernel
theorem prd_O_statementOf_1 : decode prb_O_statementOf 1 = .ok (.iload_n 1, 1) := by decide +kernel
theorem prd_O_statementOf_2 : decode prb_O_statementOf 2 = .ok (.invokevirtual 66, 3) := by decide +kernel
theorem prd_O_statementOf_5 : decode prb_O_statementOf 5 = .ok (.ifCond .eq 12, 3) := by decide +kernel
theorem prd_O_statementOf_17 : decode prb_O_statementOf 17 = .ok (.iconst (-1), 1) := by decide +kernel
theorem prd_O_statementOf_18 : decode prb_O_statementOf 18 = .ok (.ireturn, 1) := by decide +kernel
theorem prd_O_statementOf_8 : decode prb_O_statementOf 8 = .ok (.aload_n 0, 1) := by decide +kernel
theorem prd_O_statementOf_9 : decode prb_O_statementOf 9 = .ok (.getfield 19, 3) := by decide +kernel
theorem prd_O_statementOf_12 : decode prb_O_statementOf 12 = .ok (.iload_n 1, 1) := by decide +kernel
theorem prd_O_statementOf_13 : decode prb_O_statementOf 13 = .ok (.iaload, 1) := by decide +kernel
theorem prd_O_statementOf_14 : decode prb_O_statementOf 14 = .ok (.goto 4, 3) := by decide +kernel
theorem prd_O_intoOf_0 : decode prb_O_intoOf 0 = .ok (.aload_n 0, 1) := by decide +kernel
theorem prd_O_intoOf_1 : decode prb_O_intoOf 1 = .ok (.iload_n 1, 1) := by decide +kernel
theorem prd_O_intoOf_2 : decode prb_O_intoOf 2 = .ok (.invokevirtual 66, 3) := by decide +kernel
theorem prd_O_intoOf_5 : decode prb_O_intoOf 5 = .ok (.ifCond .eq 12, 3) := by decide +kernel
theorem prd_O_intoOf_17 : decode prb_O_intoOf 17 = .ok (.iconst (-1), 1) := by decide +kernel
theorem prd_O_intoOf_18 : decode prb_O_intoOf 18 = .ok (.ireturn, 1) := by decide +kernel
theorem prd_O_intoOf_8 : decode prb_O_intoOf 8 = .ok (.aload_n 0, 1) := by decide +kernel
theorem prd_O_intoOf_9 : decode prb_O_intoOf 9 = .ok (.getfield 47, 3) := by decide +kernel
theorem prd_O_intoOf_12 : decode prb_O_intoOf 12 = .ok (.iload_n 1, 1) := by decide +kernel
theorem prd_O_intoOf_13 : decode prb_O_intoOf 13 = .ok (.iaload, 1) := by decide +kernel
theorem prd_O_intoOf_14 : decode prb_O_intoOf 14 = .ok (.goto 4, 3) := by decide +kernel
theorem prd_O_otherOf_0 : decode prb_O_otherOf 0 = .ok (.aload_n 0, 1) := by decide +kernel
theorem prd_O_otherOf_1 : decode prb_O_otherOf 1 = .ok (.iload_n 1, 1) := by decide +kernel
theorem prd_O_otherOf_2 : decode prb_O_otherOf 2 = .ok (.invokevirtual 66, 3) := by decide +kernel
theorem prd_O_otherOf_5 : decode prb_O_otherOf 5 = .ok (.ifCond .eq 12, 3) := by decide +kernel
theorem prd_O_otherOf_17 : decode prb_O_otherOf 17 = .ok (.iconst (-1), 1) := by decide +kernel
theorem prd_O_otherOf_18 : decode prb_O_otherOf 18 = .ok (.ireturn, 1) := by decide +kernel
theorem prd_O_otherOf_8 : decode prb_O_otherOf 8 = .ok (.aload_n 0, 1) := by decide +kernel
theorem prd_O_otherOf_9 : decode prb_O_otherOf 9 = .ok (.getfield 50, 3) := by decide +kernel
theorem prd_O_otherOf_12 : decode prb_O_otherOf 12 = .ok (.iload_n 1, 1) := by decide +kernel
theorem prd_O_otherOf_13 : decode prb_O_otherOf 13 = .ok (.iaload, 1) := by decide +kernel
theorem prd_O_otherOf_14 : decode prb_O_otherOf 14 = .ok (.goto 4, 3) := by decide +kernel
theorem prd_O_parentOf_0 : decode prb_O_parentOf 0 = .ok (.aload_n 0, 1) := by decide +kernel
theorem prd_O_parentOf_1 : decode prb_O_parentOf 1 = .ok (.iload_n 1, 1) := by decide +kernel
theorem prd_O_parentOf_2 : decode prb_O_parentOf 2 = .ok (.invokevirtual 66, 3) := by decide +kernel
theorem prd_O_parentOf_5 : decode prb_O_parentOf 5 = .ok (.ifCond .eq 12, 3) := by decide +kernel
theorem prd_O_parentOf_17 : decode prb_O_parentOf 17 = .ok (.iconst (-1), 1) := by decide +kernel
theorem prd_O_parentOf_18 : decode prb_O_parentOf 18 = .ok (.ireturn, 1) := by decide +kernel
theorem prd_O_parentOf_8 : decode prb_O_parentOf 8 = .ok (.aload_n 0, 1) := by decide +kernel
theorem prd_O_parentOf_9 : decode prb_O_parentOf 9 = .ok (.getfield 34, 3) := by decide +kernel
theorem prd_O_parentOf_12 : decode prb_O_parentOf 12 = .ok (.iload_n 1, 1) := by decide +kernel
theorem prd_O_parentOf_13 : decode prb_O_parentOf 13 = .ok (.iaload, 1) := by decide +kernel
theorem prd_O_parentOf_14 : decode prb_O_parentOf 14 = .ok (.goto 4, 3) := by decide +kernel
theorem prd_O_targetOf_0 : decode prb_O_targetOf 0 = .ok (.aload_n 0, 1) := by decide +kernel
theorem prd_O_targetOf_1 : decode prb_O_targetOf 1 = .ok (.iload_n 1, 1) := by decide +kernel
theorem prd_O_targetOf_2 : decode prb_O_targetOf 2 = .ok (.invokevirtual 66, 3) := by decide +kernel
theorem prd_O_targetOf_5 : decode prb_O_targetOf 5 = .ok (.ifCond .eq 12, 3) := by decide +kernel
theorem prd_O_targetOf_17 : decode prb_O_targetOf 17 = .ok (.iconst (-1), 1) := by decide +kernel
theorem prd_O_targetOf_18 : decode prb_O_targetOf 18 = .ok (.ireturn, 1) := by decide +kernel
theorem prd_O_targetOf_8 : decode prb_O_targetOf 8 = .ok (.aload_n 0, 1) := by decide +kernel
theorem prd_O_targetOf_9 : decode prb_O_targetOf 9 = .ok (.getfield 41, 3) := by decide +kernel
theorem prd_O_targetOf_12 : decode prb_O_targetOf 12 = .ok (.iload_n 1, 1) := by decide +kernel
theorem prd_O_targetOf_13 : decode prb_O_targetOf 13 = .ok (.iaload, 1) := by decide +kernel
theorem prd_O_targetOf_14 : decode prb_O_targetOf 14 = .ok (.goto 4, 3) := by decide +kernel

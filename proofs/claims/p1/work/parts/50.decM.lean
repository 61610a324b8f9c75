/-! DECODE ROWS -/
theorem prd_M_forget_0 : decode prb_M_forget 0 = .ok (.aload_n 0, 1) := by decide +kernel
theorem prd_M_forget_1 : decode prb_M_forget 1 = .ok (.iconst 0, 1) := by decide +kernel
theorem prd_M_forget_2 : decode prb_M_forget 2 = .ok (.putfield 43, 3) := by decide +kernel
theorem prd_M_forget_5 : decode prb_M_forget 5 = .ok (.aload_n 0, 1) := by decide +kernel
theorem prd_M_forget_6 : decode prb_M_forget 6 = .ok (.iconst 0, 1) := by decide +kernel
theorem prd_M_forget_7 : decode prb_M_forget 7 = .ok (.putfield 46, 3) := by decide +kernel
theorem prd_M_forget_10 : decode prb_M_forget 10 = .ok (.aload_n 0, 1) := by decide +kernel
theorem prd_M_forget_11 : decode prb_M_forget 11 = .ok (.iconst 0, 1) := by decide +kernel
theorem prd_M_forget_12 : decode prb_M_forget 12 = .ok (.putfield 49, 3) := by decide +kernel
theorem prd_M_forget_15 : decode prb_M_forget 15 = .ok (.aload_n 0, 1) := by decide +kernel
theorem prd_M_forget_16 : decode prb_M_forget 16 = .ok (.iconst 0, 1) := by decide +kernel
theorem prd_M_forget_17 : decode prb_M_forget 17 = .ok (.putfield 52, 3) := by decide +kernel
theorem prd_M_forget_20 : decode prb_M_forget 20 = .ok (.return_, 1) := by decide +kernel
theorem prd_M_addInput_0 : decode prb_M_addInput 0 = .ok (.aload_n 0, 1) := by decide +kernel
theorem prd_M_addInput_1 : decode prb_M_addInput 1 = .ok (.getfield 39, 3) := by decide +kernel
theorem prd_M_addInput_4 : decode prb_M_addInput 4 = .ok (.ifCond .lt 15, 3) := by decide +kernel
theorem prd_M_addInput_19 : decode prb_M_addInput 19 = .ok (.iconst (-1), 1) := by decide +kernel
theorem prd_M_addInput_20 : decode prb_M_addInput 20 = .ok (.ireturn, 1) := by decide +kernel
theorem prd_M_addInput_7 : decode prb_M_addInput 7 = .ok (.aload_n 0, 1) := by decide +kernel
theorem prd_M_addInput_8 : decode prb_M_addInput 8 = .ok (.getfield 39, 3) := by decide +kernel
theorem prd_M_addInput_11 : decode prb_M_addInput 11 = .ok (.aload_n 0, 1) := by decide +kernel
theorem prd_M_addInput_12 : decode prb_M_addInput 12 = .ok (.getfield 9, 3) := by decide +kernel
theorem prd_M_addInput_15 : decode prb_M_addInput 15 = .ok (.arraylength, 1) := by decide +kernel
theorem prd_M_addInput_16 : decode prb_M_addInput 16 = .ok (.if_icmp .lt 5, 3) := by decide +kernel
theorem prd_M_addInput_21 : decode prb_M_addInput 21 = .ok (.aload_n 0, 1) := by decide +kernel
theorem prd_M_addInput_22 : decode prb_M_addInput 22 = .ok (.getfield 9, 3) := by decide +kernel
theorem prd_M_addInput_25 : decode prb_M_addInput 25 = .ok (.aload_n 0, 1) := by decide +kernel
theorem prd_M_addInput_26 : decode prb_M_addInput 26 = .ok (.getfield 39, 3) := by decide +kernel
theorem prd_M_addInput_29 : decode prb_M_addInput 29 = .ok (.iload_n 1, 1) := by decide +kernel
theorem prd_M_addInput_30 : decode prb_M_addInput 30 = .ok (.iastore, 1) := by decide +kernel
theorem prd_M_addInput_31 : decode prb_M_addInput 31 = .ok (.aload_n 0, 1) := by decide +kernel
theorem prd_M_addInput_32 : decode prb_M_addInput 32 = .ok (.dup, 1) := by decide +kernel
theorem prd_M_addInput_33 : decode prb_M_addInput 33 = .ok (.getfield 39, 3) := by decide +kernel
theorem prd_M_addInput_36 : decode prb_M_addInput 36 = .ok (.iconst 1, 1) := by decide +kernel
theorem prd_M_addInput_37 : decode prb_M_addInput 37 = .ok (.iadd, 1) := by decide +kernel
theorem prd_M_addInput_38 : decode prb_M_addInput 38 = .ok (.putfield 39, 3) := by decide +kernel
theorem prd_M_addInput_41 : decode prb_M_addInput 41 = .ok (.aload_n 0, 1) := by decide +kernel
theorem prd_M_addInput_42 : decode prb_M_addInput 42 = .ok (.getfield 39, 3) := by decide +kernel
theorem prd_M_addInput_45 : decode prb_M_addInput 45 = .ok (.ireturn, 1) := by decide +kernel
theorem prd_M_dropInputs_0 : decode prb_M_dropInputs 0 = .ok (.aload_n 0, 1) := by decide +kernel
theorem prd_M_dropInputs_1 : decode prb_M_dropInputs 1 = .ok (.getfield 39, 3) := by decide +kernel
theorem prd_M_dropInputs_4 : decode prb_M_dropInputs 4 = .ok (.istore_n 1, 1) := by decide +kernel
theorem prd_M_dropInputs_5 : decode prb_M_dropInputs 5 = .ok (.aload_n 0, 1) := by decide +kernel
theorem prd_M_dropInputs_6 : decode prb_M_dropInputs 6 = .ok (.iconst 0, 1) := by decide +kernel
theorem prd_M_dropInputs_7 : decode prb_M_dropInputs 7 = .ok (.putfield 39, 3) := by decide +kernel
theorem prd_M_dropInputs_10 : decode prb_M_dropInputs 10 = .ok (.iload_n 1, 1) := by decide +kernel
theorem prd_M_dropInputs_11 : decode prb_M_dropInputs 11 = .ok (.ireturn, 1) := by decide +kernel
theorem prd_M_waitingAt_0 : decode prb_M_waitingAt 0 = .ok (.iload_n 1, 1) := by decide +kernel
theorem prd_M_waitingAt_1 : decode prb_M_waitingAt 1 = .ok (.ifCond .lt 29, 3) := by decide +kernel
theorem prd_M_waitingAt_30 : decode prb_M_waitingAt 30 = .ok (.iconst 0, 1) := by decide +kernel
theorem prd_M_waitingAt_31 : decode prb_M_waitingAt 31 = .ok (.ireturn, 1) := by decide +kernel
theorem prd_M_waitingAt_4 : decode prb_M_waitingAt 4 = .ok (.iload_n 1, 1) := by decide +kernel
theorem prd_M_waitingAt_5 : decode prb_M_waitingAt 5 = .ok (.aload_n 0, 1) := by decide +kernel
theorem prd_M_waitingAt_6 : decode prb_M_waitingAt 6 = .ok (.getfield 111, 3) := by decide +kernel
theorem prd_M_waitingAt_9 : decode prb_M_waitingAt 9 = .ok (.if_icmp .ge 21, 3) := by decide +kernel
theorem prd_M_waitingAt_12 : decode prb_M_waitingAt 12 = .ok (.iload_n 1, 1) := by decide +kernel
theorem prd_M_waitingAt_13 : decode prb_M_waitingAt 13 = .ok (.aload_n 0, 1) := by decide +kernel
theorem prd_M_waitingAt_14 : decode prb_M_waitingAt 14 = .ok (.getfield 24, 3) := by decide +kernel
theorem prd_M_waitingAt_17 : decode prb_M_waitingAt 17 = .ok (.arraylength, 1) := by decide +kernel
theorem prd_M_waitingAt_18 : decode prb_M_waitingAt 18 = .ok (.if_icmp .ge 12, 3) := by decide +kernel
theorem prd_M_waitingAt_21 : decode prb_M_waitingAt 21 = .ok (.aload_n 0, 1) := by decide +kernel
theorem prd_M_waitingAt_22 : decode prb_M_waitingAt 22 = .ok (.getfield 24, 3) := by decide +kernel
theorem prd_M_waitingAt_25 : decode prb_M_waitingAt 25 = .ok (.iload_n 1, 1) := by decide +kernel
theorem prd_M_waitingAt_26 : decode prb_M_waitingAt 26 = .ok (.iaload, 1) := by decide +kernel
theorem prd_M_waitingAt_27 : decode prb_M_waitingAt 27 = .ok (.goto 4, 3) := by decide +kernel
theorem prd_M_pop_0 : decode prb_M_pop 0 = .ok (.aload_n 0, 1) := by decide +kernel
theorem prd_M_pop_1 : decode prb_M_pop 1 = .ok (.getfield 111, 3) := by decide +kernel
theorem prd_M_pop_4 : decode prb_M_pop 4 = .ok (.ifCond .le 15, 3) := by decide +kernel
theorem prd_M_pop_19 : decode prb_M_pop 19 = .ok (.iconst 0, 1) := by decide +kernel
theorem prd_M_pop_20 : decode prb_M_pop 20 = .ok (.ireturn, 1) := by decide +kernel
theorem prd_M_pop_7 : decode prb_M_pop 7 = .ok (.aload_n 0, 1) := by decide +kernel
theorem prd_M_pop_8 : decode prb_M_pop 8 = .ok (.getfield 111, 3) := by decide +kernel
theorem prd_M_pop_11 : decode prb_M_pop 11 = .ok (.aload_n 0, 1) := by decide +kernel
theorem prd_M_pop_12 : decode prb_M_pop 12 = .ok (.getfield 24, 3) := by decide +kernel
theorem prd_M_pop_15 : decode prb_M_pop 15 = .ok (.arraylength, 1) := by decide +kernel
theorem prd_M_pop_16 : decode prb_M_pop 16 = .ok (.if_icmp .le 5, 3) := by decide +kernel
theorem prd_M_pop_21 : decode prb_M_pop 21 = .ok (.aload_n 0, 1) := by decide +kernel
theorem prd_M_pop_22 : decode prb_M_pop 22 = .ok (.dup, 1) := by decide +kernel
theorem prd_M_pop_23 : decode prb_M_pop 23 = .ok (.getfield 111, 3) := by decide +kernel
theorem prd_M_pop_26 : decode prb_M_pop 26 = .ok (.iconst 1, 1) := by decide +kernel
theorem prd_M_pop_27 : decode prb_M_pop 27 = .ok (.isub, 1) := by decide +kernel
theorem prd_M_pop_28 : decode prb_M_pop 28 = .ok (.putfield 111, 3) := by decide +kernel
theorem prd_M_pop_31 : decode prb_M_pop 31 = .ok (.aload_n 0, 1) := by decide +kernel
theorem prd_M_pop_32 : decode prb_M_pop 32 = .ok (.getfield 24, 3) := by decide +kernel
theorem prd_M_pop_35 : decode prb_M_pop 35 = .ok (.aload_n 0, 1) := by decide +kernel
theorem prd_M_pop_36 : decode prb_M_pop 36 = .ok (.getfield 111, 3) := by decide +kernel
theorem prd_M_pop_39 : decode prb_M_pop 39 = .ok (.iaload, 1) := by decide +kernel
theorem prd_M_pop_40 : decode prb_M_pop 40 = .ok (.ireturn, 1) := by decide +kernel
theorem prd_M_push_0 : decode prb_M_push 0 = .ok (.aload_n 0, 1) := by decide +kernel
theorem prd_M_push_1 : decode prb_M_push 1 = .ok (.getfield 111, 3) := by decide +kernel
theorem prd_M_push_4 : decode prb_M_push 4 = .ok (.ifCond .lt 35, 3) := by decide +kernel
theorem prd_M_push_39 : decode prb_M_push 39 = .ok (.return_, 1) := by decide +kernel
theorem prd_M_push_7 : decode prb_M_push 7 = .ok (.aload_n 0, 1) := by decide +kernel
theorem prd_M_push_8 : decode prb_M_push 8 = .ok (.getfield 111, 3) := by decide +kernel
theorem prd_M_push_11 : decode prb_M_push 11 = .ok (.aload_n 0, 1) := by decide +kernel
theorem prd_M_push_12 : decode prb_M_push 12 = .ok (.getfield 24, 3) := by decide +kernel
theorem prd_M_push_15 : decode prb_M_push 15 = .ok (.arraylength, 1) := by decide +kernel
theorem prd_M_push_16 : decode prb_M_push 16 = .ok (.if_icmp .ge 23, 3) := by decide +kernel
theorem prd_M_push_19 : decode prb_M_push 19 = .ok (.aload_n 0, 1) := by decide +kernel
theorem prd_M_push_20 : decode prb_M_push 20 = .ok (.getfield 24, 3) := by decide +kernel
theorem prd_M_push_23 : decode prb_M_push 23 = .ok (.aload_n 0, 1) := by decide +kernel
theorem prd_M_push_24 : decode prb_M_push 24 = .ok (.getfield 111, 3) := by decide +kernel
theorem prd_M_push_27 : decode prb_M_push 27 = .ok (.iload_n 1, 1) := by decide +kernel
theorem prd_M_push_28 : decode prb_M_push 28 = .ok (.iastore, 1) := by decide +kernel
theorem prd_M_push_29 : decode prb_M_push 29 = .ok (.aload_n 0, 1) := by decide +kernel
theorem prd_M_push_30 : decode prb_M_push 30 = .ok (.dup, 1) := by decide +kernel
theorem prd_M_push_31 : decode prb_M_push 31 = .ok (.getfield 111, 3) := by decide +kernel
theorem prd_M_push_34 : decode prb_M_push 34 = .ok (.iconst 1, 1) := by decide +kernel
theorem prd_M_push_35 : decode prb_M_push 35 = .ok (.iadd, 1) := by decide +kernel
theorem prd_M_push_36 : decode prb_M_push 36 = .ok (.putfield 111, 3) := by decide +kernel
theorem prd_M_pushIfInt_0 : decode prb_M_pushIfInt 0 = .ok (.lload_n 1, 1) := by decide +kernel
theorem prd_M_pushIfInt_1 : decode prb_M_pushIfInt 1 = .ok (.ldc2_w 154, 3) := by decide +kernel
theorem prd_M_pushIfInt_4 : decode prb_M_pushIfInt 4 = .ok (.lcmp, 1) := by decide +kernel
theorem prd_M_pushIfInt_5 : decode prb_M_pushIfInt 5 = .ok (.ifCond .lt 11, 3) := by decide +kernel
theorem prd_M_pushIfInt_16 : decode prb_M_pushIfInt 16 = .ok (.aload_n 0, 1) := by decide +kernel
theorem prd_M_pushIfInt_17 : decode prb_M_pushIfInt 17 = .ok (.iconst 1, 1) := by decide +kernel
theorem prd_M_pushIfInt_18 : decode prb_M_pushIfInt 18 = .ok (.putfield 52, 3) := by decide +kernel
theorem prd_M_pushIfInt_21 : decode prb_M_pushIfInt 21 = .ok (.goto 9, 3) := by decide +kernel
theorem prd_M_pushIfInt_30 : decode prb_M_pushIfInt 30 = .ok (.return_, 1) := by decide +kernel
theorem prd_M_pushIfInt_8 : decode prb_M_pushIfInt 8 = .ok (.lload_n 1, 1) := by decide +kernel
theorem prd_M_pushIfInt_9 : decode prb_M_pushIfInt 9 = .ok (.ldc2_w 156, 3) := by decide +kernel
theorem prd_M_pushIfInt_12 : decode prb_M_pushIfInt 12 = .ok (.lcmp, 1) := by decide +kernel
theorem prd_M_pushIfInt_13 : decode prb_M_pushIfInt 13 = .ok (.ifCond .le 11, 3) := by decide +kernel
theorem prd_M_pushIfInt_24 : decode prb_M_pushIfInt 24 = .ok (.aload_n 0, 1) := by decide +kernel
theorem prd_M_pushIfInt_25 : decode prb_M_pushIfInt 25 = .ok (.lload_n 1, 1) := by decide +kernel
theorem prd_M_pushIfInt_26 : decode prb_M_pushIfInt 26 = .ok (.l2i, 1) := by decide +kernel
theorem prd_M_pushIfInt_27 : decode prb_M_pushIfInt 27 = .ok (.invokevirtual 151, 3) := by decide +kernel
theorem prd_M_reckonTwo_0 : decode prb_M_reckonTwo 0 = .ok (.aload_n 0, 1) := by decide +kernel
theorem prd_M_reckonTwo_1 : decode prb_M_reckonTwo 1 = .ok (.invokevirtual 172, 3) := by decide +kernel
theorem prd_M_reckonTwo_4 : decode prb_M_reckonTwo 4 = .ok (.istore_n 2, 1) := by decide +kernel
theorem prd_M_reckonTwo_5 : decode prb_M_reckonTwo 5 = .ok (.aload_n 0, 1) := by decide +kernel
theorem prd_M_reckonTwo_6 : decode prb_M_reckonTwo 6 = .ok (.invokevirtual 172, 3) := by decide +kernel
theorem prd_M_reckonTwo_9 : decode prb_M_reckonTwo 9 = .ok (.istore_n 3, 1) := by decide +kernel
theorem prd_M_reckonTwo_10 : decode prb_M_reckonTwo 10 = .ok (.iload_n 1, 1) := by decide +kernel
theorem prd_M_reckonTwo_11 : decode prb_M_reckonTwo 11 = .ok (.tableswitch 61 21 23 #[25, 37, 49], 25) := by decide +kernel
theorem prd_M_reckonTwo_36 : decode prb_M_reckonTwo 36 = .ok (.aload_n 0, 1) := by decide +kernel
theorem prd_M_reckonTwo_37 : decode prb_M_reckonTwo 37 = .ok (.iload_n 3, 1) := by decide +kernel
theorem prd_M_reckonTwo_38 : decode prb_M_reckonTwo 38 = .ok (.i2l, 1) := by decide +kernel
theorem prd_M_reckonTwo_39 : decode prb_M_reckonTwo 39 = .ok (.iload_n 2, 1) := by decide +kernel
theorem prd_M_reckonTwo_40 : decode prb_M_reckonTwo 40 = .ok (.i2l, 1) := by decide +kernel
theorem prd_M_reckonTwo_41 : decode prb_M_reckonTwo 41 = .ok (.ladd, 1) := by decide +kernel
theorem prd_M_reckonTwo_42 : decode prb_M_reckonTwo 42 = .ok (.invokevirtual 185, 3) := by decide +kernel
theorem prd_M_reckonTwo_45 : decode prb_M_reckonTwo 45 = .ok (.goto 62, 3) := by decide +kernel
theorem prd_M_reckonTwo_107 : decode prb_M_reckonTwo 107 = .ok (.return_, 1) := by decide +kernel
theorem prd_M_reckonTwo_48 : decode prb_M_reckonTwo 48 = .ok (.aload_n 0, 1) := by decide +kernel
theorem prd_M_reckonTwo_49 : decode prb_M_reckonTwo 49 = .ok (.iload_n 3, 1) := by decide +kernel
theorem prd_M_reckonTwo_50 : decode prb_M_reckonTwo 50 = .ok (.i2l, 1) := by decide +kernel
theorem prd_M_reckonTwo_51 : decode prb_M_reckonTwo 51 = .ok (.iload_n 2, 1) := by decide +kernel
theorem prd_M_reckonTwo_52 : decode prb_M_reckonTwo 52 = .ok (.i2l, 1) := by decide +kernel
theorem prd_M_reckonTwo_53 : decode prb_M_reckonTwo 53 = .ok (.lsub, 1) := by decide +kernel
theorem prd_M_reckonTwo_54 : decode prb_M_reckonTwo 54 = .ok (.invokevirtual 185, 3) := by decide +kernel
theorem prd_M_reckonTwo_57 : decode prb_M_reckonTwo 57 = .ok (.goto 50, 3) := by decide +kernel
theorem prd_M_reckonTwo_60 : decode prb_M_reckonTwo 60 = .ok (.aload_n 0, 1) := by decide +kernel
theorem prd_M_reckonTwo_61 : decode prb_M_reckonTwo 61 = .ok (.iload_n 3, 1) := by decide +kernel
theorem prd_M_reckonTwo_62 : decode prb_M_reckonTwo 62 = .ok (.i2l, 1) := by decide +kernel
theorem prd_M_reckonTwo_63 : decode prb_M_reckonTwo 63 = .ok (.iload_n 2, 1) := by decide +kernel
theorem prd_M_reckonTwo_64 : decode prb_M_reckonTwo 64 = .ok (.i2l, 1) := by decide +kernel
theorem prd_M_reckonTwo_65 : decode prb_M_reckonTwo 65 = .ok (.lmul, 1) := by decide +kernel
theorem prd_M_reckonTwo_66 : decode prb_M_reckonTwo 66 = .ok (.invokevirtual 185, 3) := by decide +kernel
theorem prd_M_reckonTwo_69 : decode prb_M_reckonTwo 69 = .ok (.goto 38, 3) := by decide +kernel
theorem prd_M_reckonTwo_72 : decode prb_M_reckonTwo 72 = .ok (.iload_n 2, 1) := by decide +kernel
theorem prd_M_reckonTwo_73 : decode prb_M_reckonTwo 73 = .ok (.ifCond .ne 11, 3) := by decide +kernel
theorem prd_M_reckonTwo_84 : decode prb_M_reckonTwo 84 = .ok (.aload_n 0, 1) := by decide +kernel
theorem prd_M_reckonTwo_85 : decode prb_M_reckonTwo 85 = .ok (.iload_n 1, 1) := by decide +kernel
theorem prd_M_reckonTwo_86 : decode prb_M_reckonTwo 86 = .ok (.bipush 24, 2) := by decide +kernel
theorem prd_M_reckonTwo_88 : decode prb_M_reckonTwo 88 = .ok (.if_icmp .ne 11, 3) := by decide +kernel
theorem prd_M_reckonTwo_99 : decode prb_M_reckonTwo 99 = .ok (.iload_n 3, 1) := by decide +kernel
theorem prd_M_reckonTwo_100 : decode prb_M_reckonTwo 100 = .ok (.i2l, 1) := by decide +kernel
theorem prd_M_reckonTwo_101 : decode prb_M_reckonTwo 101 = .ok (.iload_n 2, 1) := by decide +kernel
theorem prd_M_reckonTwo_102 : decode prb_M_reckonTwo 102 = .ok (.i2l, 1) := by decide +kernel
theorem prd_M_reckonTwo_103 : decode prb_M_reckonTwo 103 = .ok (.lrem, 1) := by decide +kernel
theorem prd_M_reckonTwo_104 : decode prb_M_reckonTwo 104 = .ok (.invokevirtual 185, 3) := by decide +kernel
theorem prd_M_reckonTwo_91 : decode prb_M_reckonTwo 91 = .ok (.iload_n 3, 1) := by decide +kernel
theorem prd_M_reckonTwo_92 : decode prb_M_reckonTwo 92 = .ok (.i2l, 1) := by decide +kernel
theorem prd_M_reckonTwo_93 : decode prb_M_reckonTwo 93 = .ok (.iload_n 2, 1) := by decide +kernel
theorem prd_M_reckonTwo_94 : decode prb_M_reckonTwo 94 = .ok (.i2l, 1) := by decide +kernel
theorem prd_M_reckonTwo_95 : decode prb_M_reckonTwo 95 = .ok (.ldiv, 1) := by decide +kernel
theorem prd_M_reckonTwo_96 : decode prb_M_reckonTwo 96 = .ok (.goto 8, 3) := by decide +kernel
theorem prd_M_reckonTwo_76 : decode prb_M_reckonTwo 76 = .ok (.aload_n 0, 1) := by decide +kernel
theorem prd_M_reckonTwo_77 : decode prb_M_reckonTwo 77 = .ok (.iconst 2, 1) := by decide +kernel
theorem prd_M_reckonTwo_78 : decode prb_M_reckonTwo 78 = .ok (.putfield 52, 3) := by decide +kernel
theorem prd_M_reckonTwo_81 : decode prb_M_reckonTwo 81 = .ok (.goto 26, 3) := by decide +kernel
theorem prd_M_pushTruth_0 : decode prb_M_pushTruth 0 = .ok (.aload_n 0, 1) := by decide +kernel
theorem prd_M_pushTruth_1 : decode prb_M_pushTruth 1 = .ok (.iload_n 1, 1) := by decide +kernel
theorem prd_M_pushTruth_2 : decode prb_M_pushTruth 2 = .ok (.ifCond .eq 7, 3) := by decide +kernel
theorem prd_M_pushTruth_9 : decode prb_M_pushTruth 9 = .ok (.iconst 0, 1) := by decide +kernel
theorem prd_M_pushTruth_10 : decode prb_M_pushTruth 10 = .ok (.invokevirtual 151, 3) := by decide +kernel
theorem prd_M_pushTruth_13 : decode prb_M_pushTruth 13 = .ok (.return_, 1) := by decide +kernel
theorem prd_M_pushTruth_5 : decode prb_M_pushTruth 5 = .ok (.iconst 1, 1) := by decide +kernel
theorem prd_M_pushTruth_6 : decode prb_M_pushTruth 6 = .ok (.goto 4, 3) := by decide +kernel
theorem prd_M_compareTwo_0 : decode prb_M_compareTwo 0 = .ok (.aload_n 0, 1) := by decide +kernel
theorem prd_M_compareTwo_1 : decode prb_M_compareTwo 1 = .ok (.invokevirtual 172, 3) := by decide +kernel
theorem prd_M_compareTwo_4 : decode prb_M_compareTwo 4 = .ok (.istore_n 2, 1) := by decide +kernel
theorem prd_M_compareTwo_5 : decode prb_M_compareTwo 5 = .ok (.aload_n 0, 1) := by decide +kernel
theorem prd_M_compareTwo_6 : decode prb_M_compareTwo 6 = .ok (.invokevirtual 172, 3) := by decide +kernel
theorem prd_M_compareTwo_9 : decode prb_M_compareTwo 9 = .ok (.istore_n 3, 1) := by decide +kernel
theorem prd_M_compareTwo_10 : decode prb_M_compareTwo 10 = .ok (.iload_n 1, 1) := by decide +kernel
theorem prd_M_compareTwo_11 : decode prb_M_compareTwo 11 = .ok (.tableswitch 118 26 30 #[33, 50, 67, 84, 101], 33) := by decide +kernel
theorem prd_M_compareTwo_44 : decode prb_M_compareTwo 44 = .ok (.aload_n 0, 1) := by decide +kernel
theorem prd_M_compareTwo_45 : decode prb_M_compareTwo 45 = .ok (.iload_n 3, 1) := by decide +kernel
theorem prd_M_compareTwo_46 : decode prb_M_compareTwo 46 = .ok (.iload_n 2, 1) := by decide +kernel
theorem prd_M_compareTwo_47 : decode prb_M_compareTwo 47 = .ok (.if_icmp .ge 7, 3) := by decide +kernel
theorem prd_M_compareTwo_54 : decode prb_M_compareTwo 54 = .ok (.iconst 0, 1) := by decide +kernel
theorem prd_M_compareTwo_55 : decode prb_M_compareTwo 55 = .ok (.invokevirtual 189, 3) := by decide +kernel
theorem prd_M_compareTwo_58 : decode prb_M_compareTwo 58 = .ok (.goto 85, 3) := by decide +kernel
theorem prd_M_compareTwo_143 : decode prb_M_compareTwo 143 = .ok (.return_, 1) := by decide +kernel
theorem prd_M_compareTwo_50 : decode prb_M_compareTwo 50 = .ok (.iconst 1, 1) := by decide +kernel
theorem prd_M_compareTwo_51 : decode prb_M_compareTwo 51 = .ok (.goto 4, 3) := by decide +kernel
theorem prd_M_compareTwo_61 : decode prb_M_compareTwo 61 = .ok (.aload_n 0, 1) := by decide +kernel
theorem prd_M_compareTwo_62 : decode prb_M_compareTwo 62 = .ok (.iload_n 3, 1) := by decide +kernel
theorem prd_M_compareTwo_63 : decode prb_M_compareTwo 63 = .ok (.iload_n 2, 1) := by decide +kernel
theorem prd_M_compareTwo_64 : decode prb_M_compareTwo 64 = .ok (.if_icmp .gt 7, 3) := by decide +kernel
theorem prd_M_compareTwo_71 : decode prb_M_compareTwo 71 = .ok (.iconst 0, 1) := by decide +kernel
theorem prd_M_compareTwo_72 : decode prb_M_compareTwo 72 = .ok (.invokevirtual 189, 3) := by decide +kernel
theorem prd_M_compareTwo_75 : decode prb_M_compareTwo 75 = .ok (.goto 68, 3) := by decide +kernel
theorem prd_M_compareTwo_67 : decode prb_M_compareTwo 67 = .ok (.iconst 1, 1) := by decide +kernel
theorem prd_M_compareTwo_68 : decode prb_M_compareTwo 68 = .ok (.goto 4, 3) := by decide +kernel
theorem prd_M_compareTwo_78 : decode prb_M_compareTwo 78 = .ok (.aload_n 0, 1) := by decide +kernel
theorem prd_M_compareTwo_79 : decode prb_M_compareTwo 79 = .ok (.iload_n 3, 1) := by decide +kernel
theorem prd_M_compareTwo_80 : decode prb_M_compareTwo 80 = .ok (.iload_n 2, 1) := by decide +kernel
theorem prd_M_compareTwo_81 : decode prb_M_compareTwo 81 = .ok (.if_icmp .le 7, 3) := by decide +kernel
theorem prd_M_compareTwo_88 : decode prb_M_compareTwo 88 = .ok (.iconst 0, 1) := by decide +kernel
theorem prd_M_compareTwo_89 : decode prb_M_compareTwo 89 = .ok (.invokevirtual 189, 3) := by decide +kernel
theorem prd_M_compareTwo_92 : decode prb_M_compareTwo 92 = .ok (.goto 51, 3) := by decide +kernel
theorem prd_M_compareTwo_84 : decode prb_M_compareTwo 84 = .ok (.iconst 1, 1) := by decide +kernel
theorem prd_M_compareTwo_85 : decode prb_M_compareTwo 85 = .ok (.goto 4, 3) := by decide +kernel
theorem prd_M_compareTwo_95 : decode prb_M_compareTwo 95 = .ok (.aload_n 0, 1) := by decide +kernel
theorem prd_M_compareTwo_96 : decode prb_M_compareTwo 96 = .ok (.iload_n 3, 1) := by decide +kernel
theorem prd_M_compareTwo_97 : decode prb_M_compareTwo 97 = .ok (.iload_n 2, 1) := by decide +kernel
theorem prd_M_compareTwo_98 : decode prb_M_compareTwo 98 = .ok (.if_icmp .lt 7, 3) := by decide +kernel
theorem prd_M_compareTwo_105 : decode prb_M_compareTwo 105 = .ok (.iconst 0, 1) := by decide +kernel
theorem prd_M_compareTwo_106 : decode prb_M_compareTwo 106 = .ok (.invokevirtual 189, 3) := by decide +kernel
theorem prd_M_compareTwo_109 : decode prb_M_compareTwo 109 = .ok (.goto 34, 3) := by decide +kernel
theorem prd_M_compareTwo_101 : decode prb_M_compareTwo 101 = .ok (.iconst 1, 1) := by decide +kernel
theorem prd_M_compareTwo_102 : decode prb_M_compareTwo 102 = .ok (.goto 4, 3) := by decide +kernel
theorem prd_M_compareTwo_112 : decode prb_M_compareTwo 112 = .ok (.aload_n 0, 1) := by decide +kernel
theorem prd_M_compareTwo_113 : decode prb_M_compareTwo 113 = .ok (.iload_n 3, 1) := by decide +kernel
theorem prd_M_compareTwo_114 : decode prb_M_compareTwo 114 = .ok (.iload_n 2, 1) := by decide +kernel
theorem prd_M_compareTwo_115 : decode prb_M_compareTwo 115 = .ok (.if_icmp .ne 7, 3) := by decide +kernel
theorem prd_M_compareTwo_122 : decode prb_M_compareTwo 122 = .ok (.iconst 0, 1) := by decide +kernel
theorem prd_M_compareTwo_123 : decode prb_M_compareTwo 123 = .ok (.invokevirtual 189, 3) := by decide +kernel
theorem prd_M_compareTwo_126 : decode prb_M_compareTwo 126 = .ok (.goto 17, 3) := by decide +kernel
theorem prd_M_compareTwo_118 : decode prb_M_compareTwo 118 = .ok (.iconst 1, 1) := by decide +kernel
theorem prd_M_compareTwo_119 : decode prb_M_compareTwo 119 = .ok (.goto 4, 3) := by decide +kernel
theorem prd_M_compareTwo_129 : decode prb_M_compareTwo 129 = .ok (.aload_n 0, 1) := by decide +kernel
theorem prd_M_compareTwo_130 : decode prb_M_compareTwo 130 = .ok (.iload_n 3, 1) := by decide +kernel
theorem prd_M_compareTwo_131 : decode prb_M_compareTwo 131 = .ok (.iload_n 2, 1) := by decide +kernel
theorem prd_M_compareTwo_132 : decode prb_M_compareTwo 132 = .ok (.if_icmp .eq 7, 3) := by decide +kernel
theorem prd_M_compareTwo_139 : decode prb_M_compareTwo 139 = .ok (.iconst 0, 1) := by decide +kernel
theorem prd_M_compareTwo_140 : decode prb_M_compareTwo 140 = .ok (.invokevirtual 189, 3) := by decide +kernel
theorem prd_M_compareTwo_135 : decode prb_M_compareTwo 135 = .ok (.iconst 1, 1) := by decide +kernel
theorem prd_M_compareTwo_136 : decode prb_M_compareTwo 136 = .ok (.goto 4, 3) := by decide +kernel
theorem prd_M_slotOfName_0 : decode prb_M_slotOfName 0 = .ok (.aload_n 0, 1) := by decide +kernel
theorem prd_M_slotOfName_1 : decode prb_M_slotOfName 1 = .ok (.getfield 35, 3) := by decide +kernel
theorem prd_M_slotOfName_4 : decode prb_M_slotOfName 4 = .ok (.iload_n 1, 1) := by decide +kernel
theorem prd_M_slotOfName_5 : decode prb_M_slotOfName 5 = .ok (.invokevirtual 134, 3) := by decide +kernel
theorem prd_M_slotOfName_8 : decode prb_M_slotOfName 8 = .ok (.aload_n 0, 1) := by decide +kernel
theorem prd_M_slotOfName_9 : decode prb_M_slotOfName 9 = .ok (.getfield 31, 3) := by decide +kernel
theorem prd_M_slotOfName_12 : decode prb_M_slotOfName 12 = .ok (.iload_n 2, 1) := by decide +kernel
theorem prd_M_slotOfName_13 : decode prb_M_slotOfName 13 = .ok (.invokevirtual 137, 3) := by decide +kernel
theorem prd_M_slotOfName_16 : decode prb_M_slotOfName 16 = .ok (.iadd, 1) := by decide +kernel
theorem prd_M_slotOfName_17 : decode prb_M_slotOfName 17 = .ok (.ireturn, 1) := by decide +kernel
theorem prd_M_getNumber_0 : decode prb_M_getNumber 0 = .ok (.iload_n 1, 1) := by decide +kernel
theorem prd_M_getNumber_1 : decode prb_M_getNumber 1 = .ok (.ifCond .lt 21, 3) := by decide +kernel
theorem prd_M_getNumber_22 : decode prb_M_getNumber 22 = .ok (.iconst 0, 1) := by decide +kernel
theorem prd_M_getNumber_23 : decode prb_M_getNumber 23 = .ok (.ireturn, 1) := by decide +kernel
theorem prd_M_getNumber_4 : decode prb_M_getNumber 4 = .ok (.iload_n 1, 1) := by decide +kernel
theorem prd_M_getNumber_5 : decode prb_M_getNumber 5 = .ok (.aload_n 0, 1) := by decide +kernel
theorem prd_M_getNumber_6 : decode prb_M_getNumber 6 = .ok (.getfield 15, 3) := by decide +kernel
theorem prd_M_getNumber_9 : decode prb_M_getNumber 9 = .ok (.arraylength, 1) := by decide +kernel
theorem prd_M_getNumber_10 : decode prb_M_getNumber 10 = .ok (.if_icmp .ge 12, 3) := by decide +kernel
theorem prd_M_getNumber_13 : decode prb_M_getNumber 13 = .ok (.aload_n 0, 1) := by decide +kernel
theorem prd_M_getNumber_14 : decode prb_M_getNumber 14 = .ok (.getfield 15, 3) := by decide +kernel
theorem prd_M_getNumber_17 : decode prb_M_getNumber 17 = .ok (.iload_n 1, 1) := by decide +kernel
theorem prd_M_getNumber_18 : decode prb_M_getNumber 18 = .ok (.iaload, 1) := by decide +kernel
theorem prd_M_getNumber_19 : decode prb_M_getNumber 19 = .ok (.goto 4, 3) := by decide +kernel
theorem prd_M_hasPlace_0 : decode prb_M_hasPlace 0 = .ok (.iload_n 1, 1) := by decide +kernel
theorem prd_M_hasPlace_1 : decode prb_M_hasPlace 1 = .ok (.ifCond .lt 36, 3) := by decide +kernel
theorem prd_M_hasPlace_37 : decode prb_M_hasPlace 37 = .ok (.iconst 0, 1) := by decide +kernel
theorem prd_M_hasPlace_38 : decode prb_M_hasPlace 38 = .ok (.ireturn, 1) := by decide +kernel
theorem prd_M_hasPlace_4 : decode prb_M_hasPlace 4 = .ok (.iload_n 1, 1) := by decide +kernel
theorem prd_M_hasPlace_5 : decode prb_M_hasPlace 5 = .ok (.aload_n 0, 1) := by decide +kernel
theorem prd_M_hasPlace_6 : decode prb_M_hasPlace 6 = .ok (.getfield 18, 3) := by decide +kernel
theorem prd_M_hasPlace_9 : decode prb_M_hasPlace 9 = .ok (.arraylength, 1) := by decide +kernel
theorem prd_M_hasPlace_10 : decode prb_M_hasPlace 10 = .ok (.if_icmp .ge 27, 3) := by decide +kernel
theorem prd_M_hasPlace_13 : decode prb_M_hasPlace 13 = .ok (.iload_n 2, 1) := by decide +kernel
theorem prd_M_hasPlace_14 : decode prb_M_hasPlace 14 = .ok (.ifCond .lt 23, 3) := by decide +kernel
theorem prd_M_hasPlace_17 : decode prb_M_hasPlace 17 = .ok (.iload_n 2, 1) := by decide +kernel
theorem prd_M_hasPlace_18 : decode prb_M_hasPlace 18 = .ok (.aload_n 0, 1) := by decide +kernel
theorem prd_M_hasPlace_19 : decode prb_M_hasPlace 19 = .ok (.getfield 18, 3) := by decide +kernel
theorem prd_M_hasPlace_22 : decode prb_M_hasPlace 22 = .ok (.iload_n 1, 1) := by decide +kernel
theorem prd_M_hasPlace_23 : decode prb_M_hasPlace 23 = .ok (.iaload, 1) := by decide +kernel
theorem prd_M_hasPlace_24 : decode prb_M_hasPlace 24 = .ok (.if_icmp .ge 13, 3) := by decide +kernel
theorem prd_M_hasPlace_27 : decode prb_M_hasPlace 27 = .ok (.iload_n 2, 1) := by decide +kernel
theorem prd_M_hasPlace_28 : decode prb_M_hasPlace 28 = .ok (.bipush 64, 2) := by decide +kernel
theorem prd_M_hasPlace_30 : decode prb_M_hasPlace 30 = .ok (.if_icmp .ge 7, 3) := by decide +kernel
theorem prd_M_hasPlace_33 : decode prb_M_hasPlace 33 = .ok (.iconst 1, 1) := by decide +kernel
theorem prd_M_hasPlace_34 : decode prb_M_hasPlace 34 = .ok (.goto 4, 3) := by decide +kernel
theorem prd_M_lookAtPlace_0 : decode prb_M_lookAtPlace 0 = .ok (.aload_n 0, 1) := by decide +kernel
theorem prd_M_lookAtPlace_1 : decode prb_M_lookAtPlace 1 = .ok (.aload_n 0, 1) := by decide +kernel
theorem prd_M_lookAtPlace_2 : decode prb_M_lookAtPlace 2 = .ok (.aload_n 0, 1) := by decide +kernel
theorem prd_M_lookAtPlace_3 : decode prb_M_lookAtPlace 3 = .ok (.getfield 111, 3) := by decide +kernel
theorem prd_M_lookAtPlace_6 : decode prb_M_lookAtPlace 6 = .ok (.iconst 2, 1) := by decide +kernel
theorem prd_M_lookAtPlace_7 : decode prb_M_lookAtPlace 7 = .ok (.isub, 1) := by decide +kernel
theorem prd_M_lookAtPlace_8 : decode prb_M_lookAtPlace 8 = .ok (.invokevirtual 100, 3) := by decide +kernel
theorem prd_M_lookAtPlace_11 : decode prb_M_lookAtPlace 11 = .ok (.aload_n 0, 1) := by decide +kernel
theorem prd_M_lookAtPlace_12 : decode prb_M_lookAtPlace 12 = .ok (.aload_n 0, 1) := by decide +kernel
theorem prd_M_lookAtPlace_13 : decode prb_M_lookAtPlace 13 = .ok (.getfield 111, 3) := by decide +kernel
theorem prd_M_lookAtPlace_16 : decode prb_M_lookAtPlace 16 = .ok (.iconst 1, 1) := by decide +kernel
theorem prd_M_lookAtPlace_17 : decode prb_M_lookAtPlace 17 = .ok (.isub, 1) := by decide +kernel
theorem prd_M_lookAtPlace_18 : decode prb_M_lookAtPlace 18 = .ok (.invokevirtual 100, 3) := by decide +kernel
theorem prd_M_lookAtPlace_21 : decode prb_M_lookAtPlace 21 = .ok (.invokevirtual 67, 3) := by decide +kernel
theorem prd_M_lookAtPlace_24 : decode prb_M_lookAtPlace 24 = .ok (.ifCond .ne 8, 3) := by decide +kernel
theorem prd_M_lookAtPlace_32 : decode prb_M_lookAtPlace 32 = .ok (.return_, 1) := by decide +kernel
theorem prd_M_lookAtPlace_27 : decode prb_M_lookAtPlace 27 = .ok (.aload_n 0, 1) := by decide +kernel
theorem prd_M_lookAtPlace_28 : decode prb_M_lookAtPlace 28 = .ok (.iconst 4, 1) := by decide +kernel
theorem prd_M_lookAtPlace_29 : decode prb_M_lookAtPlace 29 = .ok (.putfield 52, 3) := by decide +kernel
theorem prd_M_getPlace_0 : decode prb_M_getPlace 0 = .ok (.aload_n 0, 1) := by decide +kernel
theorem prd_M_getPlace_1 : decode prb_M_getPlace 1 = .ok (.iload_n 1, 1) := by decide +kernel
theorem prd_M_getPlace_2 : decode prb_M_getPlace 2 = .ok (.iload_n 2, 1) := by decide +kernel
theorem prd_M_getPlace_3 : decode prb_M_getPlace 3 = .ok (.invokevirtual 67, 3) := by decide +kernel
theorem prd_M_getPlace_6 : decode prb_M_getPlace 6 = .ok (.ifCond .eq 17, 3) := by decide +kernel
theorem prd_M_getPlace_23 : decode prb_M_getPlace 23 = .ok (.iconst 0, 1) := by decide +kernel
theorem prd_M_getPlace_24 : decode prb_M_getPlace 24 = .ok (.ireturn, 1) := by decide +kernel
theorem prd_M_getPlace_9 : decode prb_M_getPlace 9 = .ok (.aload_n 0, 1) := by decide +kernel
theorem prd_M_getPlace_10 : decode prb_M_getPlace 10 = .ok (.getfield 21, 3) := by decide +kernel
theorem prd_M_getPlace_13 : decode prb_M_getPlace 13 = .ok (.iload_n 1, 1) := by decide +kernel
theorem prd_M_getPlace_14 : decode prb_M_getPlace 14 = .ok (.bipush 64, 2) := by decide +kernel
theorem prd_M_getPlace_16 : decode prb_M_getPlace 16 = .ok (.imul, 1) := by decide +kernel
theorem prd_M_getPlace_17 : decode prb_M_getPlace 17 = .ok (.iload_n 2, 1) := by decide +kernel
theorem prd_M_getPlace_18 : decode prb_M_getPlace 18 = .ok (.iadd, 1) := by decide +kernel
theorem prd_M_getPlace_19 : decode prb_M_getPlace 19 = .ok (.iaload, 1) := by decide +kernel
theorem prd_M_getPlace_20 : decode prb_M_getPlace 20 = .ok (.goto 4, 3) := by decide +kernel
theorem prd_M_takePlace_0 : decode prb_M_takePlace 0 = .ok (.aload_n 0, 1) := by decide +kernel
theorem prd_M_takePlace_1 : decode prb_M_takePlace 1 = .ok (.invokevirtual 196, 3) := by decide +kernel
theorem prd_M_takePlace_4 : decode prb_M_takePlace 4 = .ok (.aload_n 0, 1) := by decide +kernel
theorem prd_M_takePlace_5 : decode prb_M_takePlace 5 = .ok (.invokevirtual 172, 3) := by decide +kernel
theorem prd_M_takePlace_8 : decode prb_M_takePlace 8 = .ok (.istore_n 1, 1) := by decide +kernel
theorem prd_M_takePlace_9 : decode prb_M_takePlace 9 = .ok (.aload_n 0, 1) := by decide +kernel
theorem prd_M_takePlace_10 : decode prb_M_takePlace 10 = .ok (.invokevirtual 172, 3) := by decide +kernel
theorem prd_M_takePlace_13 : decode prb_M_takePlace 13 = .ok (.istore_n 2, 1) := by decide +kernel
theorem prd_M_takePlace_14 : decode prb_M_takePlace 14 = .ok (.aload_n 0, 1) := by decide +kernel
theorem prd_M_takePlace_15 : decode prb_M_takePlace 15 = .ok (.aload_n 0, 1) := by decide +kernel
theorem prd_M_takePlace_16 : decode prb_M_takePlace 16 = .ok (.iload_n 2, 1) := by decide +kernel
theorem prd_M_takePlace_17 : decode prb_M_takePlace 17 = .ok (.iload_n 1, 1) := by decide +kernel
theorem prd_M_takePlace_18 : decode prb_M_takePlace 18 = .ok (.invokevirtual 71, 3) := by decide +kernel
theorem prd_M_takePlace_21 : decode prb_M_takePlace 21 = .ok (.invokevirtual 151, 3) := by decide +kernel
theorem prd_M_takePlace_24 : decode prb_M_takePlace 24 = .ok (.return_, 1) := by decide +kernel
theorem prd_M_takeAny_0 : decode prb_M_takeAny 0 = .ok (.iconst 0, 1) := by decide +kernel
theorem prd_M_takeAny_1 : decode prb_M_takeAny 1 = .ok (.istore_n 2, 1) := by decide +kernel
theorem prd_M_takeAny_2 : decode prb_M_takeAny 2 = .ok (.aload_n 0, 1) := by decide +kernel
theorem prd_M_takeAny_3 : decode prb_M_takeAny 3 = .ok (.getfield 49, 3) := by decide +kernel
theorem prd_M_takeAny_6 : decode prb_M_takeAny 6 = .ok (.ifCond .lt 46, 3) := by decide +kernel
theorem prd_M_takeAny_9 : decode prb_M_takeAny 9 = .ok (.aload_n 0, 1) := by decide +kernel
theorem prd_M_takeAny_10 : decode prb_M_takeAny 10 = .ok (.getfield 49, 3) := by decide +kernel
theorem prd_M_takeAny_13 : decode prb_M_takeAny 13 = .ok (.aload_n 0, 1) := by decide +kernel
theorem prd_M_takeAny_14 : decode prb_M_takeAny 14 = .ok (.getfield 39, 3) := by decide +kernel
theorem prd_M_takeAny_17 : decode prb_M_takeAny 17 = .ok (.if_icmp .ge 35, 3) := by decide +kernel
theorem prd_M_takeAny_20 : decode prb_M_takeAny 20 = .ok (.aload_n 0, 1) := by decide +kernel
theorem prd_M_takeAny_21 : decode prb_M_takeAny 21 = .ok (.getfield 49, 3) := by decide +kernel
theorem prd_M_takeAny_24 : decode prb_M_takeAny 24 = .ok (.aload_n 0, 1) := by decide +kernel
theorem prd_M_takeAny_25 : decode prb_M_takeAny 25 = .ok (.getfield 9, 3) := by decide +kernel
theorem prd_M_takeAny_28 : decode prb_M_takeAny 28 = .ok (.arraylength, 1) := by decide +kernel
theorem prd_M_takeAny_29 : decode prb_M_takeAny 29 = .ok (.if_icmp .ge 23, 3) := by decide +kernel
theorem prd_M_takeAny_32 : decode prb_M_takeAny 32 = .ok (.aload_n 0, 1) := by decide +kernel
theorem prd_M_takeAny_33 : decode prb_M_takeAny 33 = .ok (.getfield 9, 3) := by decide +kernel
theorem prd_M_takeAny_36 : decode prb_M_takeAny 36 = .ok (.aload_n 0, 1) := by decide +kernel
theorem prd_M_takeAny_37 : decode prb_M_takeAny 37 = .ok (.getfield 49, 3) := by decide +kernel
theorem prd_M_takeAny_40 : decode prb_M_takeAny 40 = .ok (.iaload, 1) := by decide +kernel
theorem prd_M_takeAny_41 : decode prb_M_takeAny 41 = .ok (.istore_n 2, 1) := by decide +kernel
theorem prd_M_takeAny_42 : decode prb_M_takeAny 42 = .ok (.aload_n 0, 1) := by decide +kernel
theorem prd_M_takeAny_43 : decode prb_M_takeAny 43 = .ok (.dup, 1) := by decide +kernel
theorem prd_M_takeAny_44 : decode prb_M_takeAny 44 = .ok (.getfield 49, 3) := by decide +kernel
theorem prd_M_takeAny_47 : decode prb_M_takeAny 47 = .ok (.iconst 1, 1) := by decide +kernel
theorem prd_M_takeAny_48 : decode prb_M_takeAny 48 = .ok (.iadd, 1) := by decide +kernel
theorem prd_M_takeAny_49 : decode prb_M_takeAny 49 = .ok (.putfield 49, 3) := by decide +kernel
theorem prd_M_takeAny_52 : decode prb_M_takeAny 52 = .ok (.aload_n 0, 1) := by decide +kernel
theorem prd_M_takeAny_53 : decode prb_M_takeAny 53 = .ok (.getfield 27, 3) := by decide +kernel
theorem prd_M_takeAny_56 : decode prb_M_takeAny 56 = .ok (.iload_n 1, 1) := by decide +kernel
theorem prd_M_takeAny_57 : decode prb_M_takeAny 57 = .ok (.iconst 1, 1) := by decide +kernel
theorem prd_M_takeAny_58 : decode prb_M_takeAny 58 = .ok (.iadd, 1) := by decide +kernel
theorem prd_M_takeAny_59 : decode prb_M_takeAny 59 = .ok (.invokevirtual 140, 3) := by decide +kernel
theorem prd_M_takeAny_62 : decode prb_M_takeAny 62 = .ok (.bipush 12, 2) := by decide +kernel
theorem prd_M_takeAny_64 : decode prb_M_takeAny 64 = .ok (.if_icmp .eq 5, 3) := by decide +kernel
theorem prd_M_takeAny_69 : decode prb_M_takeAny 69 = .ok (.aload_n 0, 1) := by decide +kernel
theorem prd_M_takeAny_70 : decode prb_M_takeAny 70 = .ok (.getfield 27, 3) := by decide +kernel
theorem prd_M_takeAny_73 : decode prb_M_takeAny 73 = .ok (.iload_n 1, 1) := by decide +kernel
theorem prd_M_takeAny_74 : decode prb_M_takeAny 74 = .ok (.iconst 2, 1) := by decide +kernel
theorem prd_M_takeAny_75 : decode prb_M_takeAny 75 = .ok (.iadd, 1) := by decide +kernel
theorem prd_M_takeAny_76 : decode prb_M_takeAny 76 = .ok (.invokevirtual 205, 3) := by decide +kernel
theorem prd_M_takeAny_79 : decode prb_M_takeAny 79 = .ok (.istore_n 3, 1) := by decide +kernel
theorem prd_M_takeAny_80 : decode prb_M_takeAny 80 = .ok (.aload_n 0, 1) := by decide +kernel
theorem prd_M_takeAny_81 : decode prb_M_takeAny 81 = .ok (.getfield 27, 3) := by decide +kernel
theorem prd_M_takeAny_84 : decode prb_M_takeAny 84 = .ok (.aload_n 0, 1) := by decide +kernel
theorem prd_M_takeAny_85 : decode prb_M_takeAny 85 = .ok (.getfield 27, 3) := by decide +kernel
theorem prd_M_takeAny_88 : decode prb_M_takeAny 88 = .ok (.iload_n 1, 1) := by decide +kernel
theorem prd_M_takeAny_89 : decode prb_M_takeAny 89 = .ok (.iconst 2, 1) := by decide +kernel
theorem prd_M_takeAny_90 : decode prb_M_takeAny 90 = .ok (.iadd, 1) := by decide +kernel
theorem prd_M_takeAny_91 : decode prb_M_takeAny 91 = .ok (.invokevirtual 208, 3) := by decide +kernel
theorem prd_M_takeAny_94 : decode prb_M_takeAny 94 = .ok (.invokevirtual 205, 3) := by decide +kernel
theorem prd_M_takeAny_97 : decode prb_M_takeAny 97 = .ok (.istore 4, 2) := by decide +kernel
theorem prd_M_takeAny_99 : decode prb_M_takeAny 99 = .ok (.iload_n 2, 1) := by decide +kernel
theorem prd_M_takeAny_100 : decode prb_M_takeAny 100 = .ok (.iload_n 3, 1) := by decide +kernel
theorem prd_M_takeAny_101 : decode prb_M_takeAny 101 = .ok (.if_icmp .lt 13, 3) := by decide +kernel
theorem prd_M_takeAny_114 : decode prb_M_takeAny 114 = .ok (.iload_n 3, 1) := by decide +kernel
theorem prd_M_takeAny_115 : decode prb_M_takeAny 115 = .ok (.ireturn, 1) := by decide +kernel
theorem prd_M_takeAny_104 : decode prb_M_takeAny 104 = .ok (.iload_n 2, 1) := by decide +kernel
theorem prd_M_takeAny_105 : decode prb_M_takeAny 105 = .ok (.iload 4, 2) := by decide +kernel
theorem prd_M_takeAny_107 : decode prb_M_takeAny 107 = .ok (.if_icmp .gt 7, 3) := by decide +kernel
theorem prd_M_takeAny_110 : decode prb_M_takeAny 110 = .ok (.iload_n 2, 1) := by decide +kernel
theorem prd_M_takeAny_111 : decode prb_M_takeAny 111 = .ok (.goto 4, 3) := by decide +kernel
theorem prd_M_takeAny_67 : decode prb_M_takeAny 67 = .ok (.iload_n 2, 1) := by decide +kernel
theorem prd_M_takeAny_68 : decode prb_M_takeAny 68 = .ok (.ireturn, 1) := by decide +kernel
theorem prd_M_reckonOne_0 : decode prb_M_reckonOne 0 = .ok (.iload_n 2, 1) := by decide +kernel
theorem prd_M_reckonOne_1 : decode prb_M_reckonOne 1 = .ok (.lookupswitch 169 #[(2, 82), (3, 67), (34, 150), (35, 137), (36, 99), (37, 123), (38, 130)], 67) := by decide +kernel
theorem prd_M_reckonOne_83 : decode prb_M_reckonOne 83 = .ok (.aload_n 0, 1) := by decide +kernel
theorem prd_M_reckonOne_84 : decode prb_M_reckonOne 84 = .ok (.aload_n 0, 1) := by decide +kernel
theorem prd_M_reckonOne_85 : decode prb_M_reckonOne 85 = .ok (.aload_n 0, 1) := by decide +kernel
theorem prd_M_reckonOne_86 : decode prb_M_reckonOne 86 = .ok (.iload_n 1, 1) := by decide +kernel
theorem prd_M_reckonOne_87 : decode prb_M_reckonOne 87 = .ok (.iload_n 3, 1) := by decide +kernel
theorem prd_M_reckonOne_88 : decode prb_M_reckonOne 88 = .ok (.invokevirtual 97, 3) := by decide +kernel
theorem prd_M_reckonOne_91 : decode prb_M_reckonOne 91 = .ok (.invokevirtual 61, 3) := by decide +kernel
theorem prd_M_reckonOne_94 : decode prb_M_reckonOne 94 = .ok (.invokevirtual 151, 3) := by decide +kernel
theorem prd_M_reckonOne_97 : decode prb_M_reckonOne 97 = .ok (.goto 82, 3) := by decide +kernel
theorem prd_M_reckonOne_179 : decode prb_M_reckonOne 179 = .ok (.return_, 1) := by decide +kernel
theorem prd_M_reckonOne_68 : decode prb_M_reckonOne 68 = .ok (.aload_n 0, 1) := by decide +kernel
theorem prd_M_reckonOne_69 : decode prb_M_reckonOne 69 = .ok (.aload_n 0, 1) := by decide +kernel
theorem prd_M_reckonOne_70 : decode prb_M_reckonOne 70 = .ok (.getfield 27, 3) := by decide +kernel
theorem prd_M_reckonOne_73 : decode prb_M_reckonOne 73 = .ok (.iload_n 3, 1) := by decide +kernel
theorem prd_M_reckonOne_74 : decode prb_M_reckonOne 74 = .ok (.invokevirtual 145, 3) := by decide +kernel
theorem prd_M_reckonOne_77 : decode prb_M_reckonOne 77 = .ok (.invokevirtual 151, 3) := by decide +kernel
theorem prd_M_reckonOne_80 : decode prb_M_reckonOne 80 = .ok (.goto 99, 3) := by decide +kernel
theorem prd_M_reckonOne_151 : decode prb_M_reckonOne 151 = .ok (.aload_n 0, 1) := by decide +kernel
theorem prd_M_reckonOne_152 : decode prb_M_reckonOne 152 = .ok (.aload_n 0, 1) := by decide +kernel
theorem prd_M_reckonOne_153 : decode prb_M_reckonOne 153 = .ok (.invokevirtual 172, 3) := by decide +kernel
theorem prd_M_reckonOne_156 : decode prb_M_reckonOne 156 = .ok (.ifCond .ne 7, 3) := by decide +kernel
theorem prd_M_reckonOne_163 : decode prb_M_reckonOne 163 = .ok (.iconst 0, 1) := by decide +kernel
theorem prd_M_reckonOne_164 : decode prb_M_reckonOne 164 = .ok (.invokevirtual 189, 3) := by decide +kernel
theorem prd_M_reckonOne_167 : decode prb_M_reckonOne 167 = .ok (.goto 12, 3) := by decide +kernel
theorem prd_M_reckonOne_159 : decode prb_M_reckonOne 159 = .ok (.iconst 1, 1) := by decide +kernel
theorem prd_M_reckonOne_160 : decode prb_M_reckonOne 160 = .ok (.goto 4, 3) := by decide +kernel
theorem prd_M_reckonOne_138 : decode prb_M_reckonOne 138 = .ok (.aload_n 0, 1) := by decide +kernel
theorem prd_M_reckonOne_139 : decode prb_M_reckonOne 139 = .ok (.aload_n 0, 1) := by decide +kernel
theorem prd_M_reckonOne_140 : decode prb_M_reckonOne 140 = .ok (.invokevirtual 172, 3) := by decide +kernel
theorem prd_M_reckonOne_143 : decode prb_M_reckonOne 143 = .ok (.i2l, 1) := by decide +kernel
theorem prd_M_reckonOne_144 : decode prb_M_reckonOne 144 = .ok (.lneg, 1) := by decide +kernel
theorem prd_M_reckonOne_145 : decode prb_M_reckonOne 145 = .ok (.invokevirtual 185, 3) := by decide +kernel
theorem prd_M_reckonOne_148 : decode prb_M_reckonOne 148 = .ok (.goto 31, 3) := by decide +kernel
theorem prd_M_reckonOne_100 : decode prb_M_reckonOne 100 = .ok (.aload_n 0, 1) := by decide +kernel
theorem prd_M_reckonOne_101 : decode prb_M_reckonOne 101 = .ok (.aload_n 0, 1) := by decide +kernel
theorem prd_M_reckonOne_102 : decode prb_M_reckonOne 102 = .ok (.getfield 35, 3) := by decide +kernel
theorem prd_M_reckonOne_105 : decode prb_M_reckonOne 105 = .ok (.iload_n 1, 1) := by decide +kernel
theorem prd_M_reckonOne_106 : decode prb_M_reckonOne 106 = .ok (.invokevirtual 193, 3) := by decide +kernel
theorem prd_M_reckonOne_109 : decode prb_M_reckonOne 109 = .ok (.aload_n 0, 1) := by decide +kernel
theorem prd_M_reckonOne_110 : decode prb_M_reckonOne 110 = .ok (.getfield 31, 3) := by decide +kernel
theorem prd_M_reckonOne_113 : decode prb_M_reckonOne 113 = .ok (.iload_n 3, 1) := by decide +kernel
theorem prd_M_reckonOne_114 : decode prb_M_reckonOne 114 = .ok (.invokevirtual 137, 3) := by decide +kernel
theorem prd_M_reckonOne_117 : decode prb_M_reckonOne 117 = .ok (.iadd, 1) := by decide +kernel
theorem prd_M_reckonOne_118 : decode prb_M_reckonOne 118 = .ok (.invokevirtual 151, 3) := by decide +kernel
theorem prd_M_reckonOne_121 : decode prb_M_reckonOne 121 = .ok (.goto 58, 3) := by decide +kernel
theorem prd_M_reckonOne_124 : decode prb_M_reckonOne 124 = .ok (.aload_n 0, 1) := by decide +kernel
theorem prd_M_reckonOne_125 : decode prb_M_reckonOne 125 = .ok (.invokevirtual 196, 3) := by decide +kernel
theorem prd_M_reckonOne_128 : decode prb_M_reckonOne 128 = .ok (.goto 51, 3) := by decide +kernel
theorem prd_M_reckonOne_131 : decode prb_M_reckonOne 131 = .ok (.aload_n 0, 1) := by decide +kernel
theorem prd_M_reckonOne_132 : decode prb_M_reckonOne 132 = .ok (.invokevirtual 199, 3) := by decide +kernel
theorem prd_M_reckonOne_135 : decode prb_M_reckonOne 135 = .ok (.goto 44, 3) := by decide +kernel
theorem prd_M_reckonOne_170 : decode prb_M_reckonOne 170 = .ok (.aload_n 0, 1) := by decide +kernel
theorem prd_M_reckonOne_171 : decode prb_M_reckonOne 171 = .ok (.aload_n 0, 1) := by decide +kernel
theorem prd_M_reckonOne_172 : decode prb_M_reckonOne 172 = .ok (.iload_n 3, 1) := by decide +kernel
theorem prd_M_reckonOne_173 : decode prb_M_reckonOne 173 = .ok (.invokevirtual 202, 3) := by decide +kernel
theorem prd_M_reckonOne_176 : decode prb_M_reckonOne 176 = .ok (.invokevirtual 151, 3) := by decide +kernel
theorem prd_M_reckon_0 : decode prb_M_reckon 0 = .ok (.aload_n 0, 1) := by decide +kernel
theorem prd_M_reckon_1 : decode prb_M_reckon 1 = .ok (.iconst 0, 1) := by decide +kernel
theorem prd_M_reckon_2 : decode prb_M_reckon 2 = .ok (.putfield 111, 3) := by decide +kernel
theorem prd_M_reckon_5 : decode prb_M_reckon 5 = .ok (.aload_n 0, 1) := by decide +kernel
theorem prd_M_reckon_6 : decode prb_M_reckon 6 = .ok (.getfield 35, 3) := by decide +kernel
theorem prd_M_reckon_9 : decode prb_M_reckon 9 = .ok (.iload_n 1, 1) := by decide +kernel
theorem prd_M_reckon_10 : decode prb_M_reckon 10 = .ok (.invokevirtual 126, 3) := by decide +kernel
theorem prd_M_reckon_13 : decode prb_M_reckon 13 = .ok (.istore_n 2, 1) := by decide +kernel
theorem prd_M_reckon_14 : decode prb_M_reckon 14 = .ok (.aload_n 0, 1) := by decide +kernel
theorem prd_M_reckon_15 : decode prb_M_reckon 15 = .ok (.getfield 31, 3) := by decide +kernel
theorem prd_M_reckon_18 : decode prb_M_reckon 18 = .ok (.iload_n 2, 1) := by decide +kernel
theorem prd_M_reckon_19 : decode prb_M_reckon 19 = .ok (.iconst 1, 1) := by decide +kernel
theorem prd_M_reckon_20 : decode prb_M_reckon 20 = .ok (.iadd, 1) := by decide +kernel
theorem prd_M_reckon_21 : decode prb_M_reckon 21 = .ok (.invokevirtual 158, 3) := by decide +kernel
theorem prd_M_reckon_24 : decode prb_M_reckon 24 = .ok (.istore_n 3, 1) := by decide +kernel
theorem prd_M_reckon_25 : decode prb_M_reckon 25 = .ok (.aload_n 0, 1) := by decide +kernel
theorem prd_M_reckon_26 : decode prb_M_reckon 26 = .ok (.getfield 31, 3) := by decide +kernel
theorem prd_M_reckon_29 : decode prb_M_reckon 29 = .ok (.iload_n 2, 1) := by decide +kernel
theorem prd_M_reckon_30 : decode prb_M_reckon 30 = .ok (.invokevirtual 158, 3) := by decide +kernel
theorem prd_M_reckon_33 : decode prb_M_reckon 33 = .ok (.istore 4, 2) := by decide +kernel
theorem prd_M_reckon_35 : decode prb_M_reckon 35 = .ok (.iload 4, 2) := by decide +kernel
theorem prd_M_reckon_37 : decode prb_M_reckon 37 = .ok (.iload_n 3, 1) := by decide +kernel
theorem prd_M_reckon_38 : decode prb_M_reckon 38 = .ok (.if_icmp .ge 166, 3) := by decide +kernel
theorem prd_M_reckon_204 : decode prb_M_reckon 204 = .ok (.return_, 1) := by decide +kernel
theorem prd_M_reckon_41 : decode prb_M_reckon 41 = .ok (.aload_n 0, 1) := by decide +kernel
theorem prd_M_reckon_42 : decode prb_M_reckon 42 = .ok (.getfield 52, 3) := by decide +kernel
theorem prd_M_reckon_45 : decode prb_M_reckon 45 = .ok (.ifCond .ne 159, 3) := by decide +kernel
theorem prd_M_reckon_48 : decode prb_M_reckon 48 = .ok (.aload_n 0, 1) := by decide +kernel
theorem prd_M_reckon_49 : decode prb_M_reckon 49 = .ok (.getfield 31, 3) := by decide +kernel
theorem prd_M_reckon_52 : decode prb_M_reckon 52 = .ok (.iload 4, 2) := by decide +kernel
theorem prd_M_reckon_54 : decode prb_M_reckon 54 = .ok (.invokevirtual 161, 3) := by decide +kernel
theorem prd_M_reckon_57 : decode prb_M_reckon 57 = .ok (.istore 5, 2) := by decide +kernel
theorem prd_M_reckon_59 : decode prb_M_reckon 59 = .ok (.aload_n 0, 1) := by decide +kernel
theorem prd_M_reckon_60 : decode prb_M_reckon 60 = .ok (.getfield 31, 3) := by decide +kernel
theorem prd_M_reckon_63 : decode prb_M_reckon 63 = .ok (.iload 4, 2) := by decide +kernel
theorem prd_M_reckon_65 : decode prb_M_reckon 65 = .ok (.invokevirtual 164, 3) := by decide +kernel
theorem prd_M_reckon_68 : decode prb_M_reckon 68 = .ok (.istore 6, 2) := by decide +kernel
theorem prd_M_reckon_70 : decode prb_M_reckon 70 = .ok (.iload 5, 2) := by decide +kernel
theorem prd_M_reckon_72 : decode prb_M_reckon 72 = .ok (.bipush 32, 2) := by decide +kernel
theorem prd_M_reckon_74 : decode prb_M_reckon 74 = .ok (.if_icmp .eq 10, 3) := by decide +kernel
theorem prd_M_reckon_77 : decode prb_M_reckon 77 = .ok (.iload 5, 2) := by decide +kernel
theorem prd_M_reckon_79 : decode prb_M_reckon 79 = .ok (.bipush 33, 2) := by decide +kernel
theorem prd_M_reckon_81 : decode prb_M_reckon 81 = .ok (.if_icmp .ne 62, 3) := by decide +kernel
theorem prd_M_reckon_143 : decode prb_M_reckon 143 = .ok (.iload 5, 2) := by decide +kernel
theorem prd_M_reckon_145 : decode prb_M_reckon 145 = .ok (.bipush 21, 2) := by decide +kernel
theorem prd_M_reckon_147 : decode prb_M_reckon 147 = .ok (.if_icmp .lt 19, 3) := by decide +kernel
theorem prd_M_reckon_150 : decode prb_M_reckon 150 = .ok (.iload 5, 2) := by decide +kernel
theorem prd_M_reckon_152 : decode prb_M_reckon 152 = .ok (.bipush 25, 2) := by decide +kernel
theorem prd_M_reckon_154 : decode prb_M_reckon 154 = .ok (.if_icmp .gt 12, 3) := by decide +kernel
theorem prd_M_reckon_157 : decode prb_M_reckon 157 = .ok (.aload_n 0, 1) := by decide +kernel
theorem prd_M_reckon_158 : decode prb_M_reckon 158 = .ok (.iload 5, 2) := by decide +kernel
theorem prd_M_reckon_160 : decode prb_M_reckon 160 = .ok (.invokevirtual 176, 3) := by decide +kernel
theorem prd_M_reckon_163 : decode prb_M_reckon 163 = .ok (.goto 35, 3) := by decide +kernel
theorem prd_M_reckon_198 : decode prb_M_reckon 198 = .ok (.iinc 4 1, 3) := by decide +kernel
theorem prd_M_reckon_201 : decode prb_M_reckon 201 = .ok (.goto (-166), 3) := by decide +kernel
theorem prd_M_reckon_166 : decode prb_M_reckon 166 = .ok (.iload 5, 2) := by decide +kernel
theorem prd_M_reckon_168 : decode prb_M_reckon 168 = .ok (.bipush 26, 2) := by decide +kernel
theorem prd_M_reckon_170 : decode prb_M_reckon 170 = .ok (.if_icmp .lt 19, 3) := by decide +kernel
theorem prd_M_reckon_189 : decode prb_M_reckon 189 = .ok (.aload_n 0, 1) := by decide +kernel
theorem prd_M_reckon_190 : decode prb_M_reckon 190 = .ok (.iload_n 1, 1) := by decide +kernel
theorem prd_M_reckon_191 : decode prb_M_reckon 191 = .ok (.iload 5, 2) := by decide +kernel
theorem prd_M_reckon_193 : decode prb_M_reckon 193 = .ok (.iload 6, 2) := by decide +kernel
theorem prd_M_reckon_195 : decode prb_M_reckon 195 = .ok (.invokevirtual 182, 3) := by decide +kernel
theorem prd_M_reckon_173 : decode prb_M_reckon 173 = .ok (.iload 5, 2) := by decide +kernel
theorem prd_M_reckon_175 : decode prb_M_reckon 175 = .ok (.bipush 31, 2) := by decide +kernel
theorem prd_M_reckon_177 : decode prb_M_reckon 177 = .ok (.if_icmp .gt 12, 3) := by decide +kernel
theorem prd_M_reckon_180 : decode prb_M_reckon 180 = .ok (.aload_n 0, 1) := by decide +kernel
theorem prd_M_reckon_181 : decode prb_M_reckon 181 = .ok (.iload 5, 2) := by decide +kernel
theorem prd_M_reckon_183 : decode prb_M_reckon 183 = .ok (.invokevirtual 179, 3) := by decide +kernel
theorem prd_M_reckon_186 : decode prb_M_reckon 186 = .ok (.goto 12, 3) := by decide +kernel
theorem prd_M_reckon_84 : decode prb_M_reckon 84 = .ok (.aload_n 0, 1) := by decide +kernel
theorem prd_M_reckon_85 : decode prb_M_reckon 85 = .ok (.aload_n 0, 1) := by decide +kernel
theorem prd_M_reckon_86 : decode prb_M_reckon 86 = .ok (.getfield 111, 3) := by decide +kernel
theorem prd_M_reckon_89 : decode prb_M_reckon 89 = .ok (.iconst 1, 1) := by decide +kernel
theorem prd_M_reckon_90 : decode prb_M_reckon 90 = .ok (.isub, 1) := by decide +kernel
theorem prd_M_reckon_91 : decode prb_M_reckon 91 = .ok (.invokevirtual 100, 3) := by decide +kernel
theorem prd_M_reckon_94 : decode prb_M_reckon 94 = .ok (.ifCond .eq 7, 3) := by decide +kernel
theorem prd_M_reckon_101 : decode prb_M_reckon 101 = .ok (.iconst 0, 1) := by decide +kernel
theorem prd_M_reckon_102 : decode prb_M_reckon 102 = .ok (.istore 7, 2) := by decide +kernel
theorem prd_M_reckon_104 : decode prb_M_reckon 104 = .ok (.iload 7, 2) := by decide +kernel
theorem prd_M_reckon_106 : decode prb_M_reckon 106 = .ok (.iload 5, 2) := by decide +kernel
theorem prd_M_reckon_108 : decode prb_M_reckon 108 = .ok (.bipush 33, 2) := by decide +kernel
theorem prd_M_reckon_110 : decode prb_M_reckon 110 = .ok (.if_icmp .ne 7, 3) := by decide +kernel
theorem prd_M_reckon_117 : decode prb_M_reckon 117 = .ok (.iconst 0, 1) := by decide +kernel
theorem prd_M_reckon_118 : decode prb_M_reckon 118 = .ok (.if_icmp .ne 17, 3) := by decide +kernel
theorem prd_M_reckon_135 : decode prb_M_reckon 135 = .ok (.aload_n 0, 1) := by decide +kernel
theorem prd_M_reckon_136 : decode prb_M_reckon 136 = .ok (.invokevirtual 172, 3) := by decide +kernel
theorem prd_M_reckon_139 : decode prb_M_reckon 139 = .ok (.pop, 1) := by decide +kernel
theorem prd_M_reckon_140 : decode prb_M_reckon 140 = .ok (.goto 58, 3) := by decide +kernel
theorem prd_M_reckon_121 : decode prb_M_reckon 121 = .ok (.iload 4, 2) := by decide +kernel
theorem prd_M_reckon_123 : decode prb_M_reckon 123 = .ok (.iload 6, 2) := by decide +kernel
theorem prd_M_reckon_125 : decode prb_M_reckon 125 = .ok (.iconst 1, 1) := by decide +kernel
theorem prd_M_reckon_126 : decode prb_M_reckon 126 = .ok (.isub, 1) := by decide +kernel
theorem prd_M_reckon_127 : decode prb_M_reckon 127 = .ok (.invokestatic 167, 3) := by decide +kernel
theorem prd_M_reckon_130 : decode prb_M_reckon 130 = .ok (.istore 4, 2) := by decide +kernel
theorem prd_M_reckon_132 : decode prb_M_reckon 132 = .ok (.goto 8, 3) := by decide +kernel
theorem prd_M_reckon_113 : decode prb_M_reckon 113 = .ok (.iconst 1, 1) := by decide +kernel
theorem prd_M_reckon_114 : decode prb_M_reckon 114 = .ok (.goto 4, 3) := by decide +kernel
theorem prd_M_reckon_97 : decode prb_M_reckon 97 = .ok (.iconst 1, 1) := by decide +kernel
theorem prd_M_reckon_98 : decode prb_M_reckon 98 = .ok (.goto 4, 3) := by decide +kernel
theorem prd_M_firstToken_0 : decode prb_M_firstToken 0 = .ok (.aload_n 0, 1) := by decide +kernel
theorem prd_M_firstToken_1 : decode prb_M_firstToken 1 = .ok (.getfield 31, 3) := by decide +kernel
theorem prd_M_firstToken_4 : decode prb_M_firstToken 4 = .ok (.aload_n 0, 1) := by decide +kernel
theorem prd_M_firstToken_5 : decode prb_M_firstToken 5 = .ok (.getfield 35, 3) := by decide +kernel
theorem prd_M_firstToken_8 : decode prb_M_firstToken 8 = .ok (.iload_n 1, 1) := by decide +kernel
theorem prd_M_firstToken_9 : decode prb_M_firstToken 9 = .ok (.invokevirtual 126, 3) := by decide +kernel
theorem prd_M_firstToken_12 : decode prb_M_firstToken 12 = .ok (.invokevirtual 129, 3) := by decide +kernel
theorem prd_M_firstToken_15 : decode prb_M_firstToken 15 = .ok (.ireturn, 1) := by decide +kernel
theorem prd_M_beginArray_0 : decode prb_M_beginArray 0 = .ok (.iload_n 1, 1) := by decide +kernel
theorem prd_M_beginArray_1 : decode prb_M_beginArray 1 = .ok (.ifCond .lt 12, 3) := by decide +kernel
theorem prd_M_beginArray_13 : decode prb_M_beginArray 13 = .ok (.return_, 1) := by decide +kernel
theorem prd_M_beginArray_4 : decode prb_M_beginArray 4 = .ok (.iload_n 1, 1) := by decide +kernel
theorem prd_M_beginArray_5 : decode prb_M_beginArray 5 = .ok (.aload_n 0, 1) := by decide +kernel
theorem prd_M_beginArray_6 : decode prb_M_beginArray 6 = .ok (.getfield 18, 3) := by decide +kernel
theorem prd_M_beginArray_9 : decode prb_M_beginArray 9 = .ok (.arraylength, 1) := by decide +kernel
theorem prd_M_beginArray_10 : decode prb_M_beginArray 10 = .ok (.if_icmp .lt 4, 3) := by decide +kernel
theorem prd_M_beginArray_14 : decode prb_M_beginArray 14 = .ok (.aload_n 0, 1) := by decide +kernel
theorem prd_M_beginArray_15 : decode prb_M_beginArray 15 = .ok (.getfield 18, 3) := by decide +kernel
theorem prd_M_beginArray_18 : decode prb_M_beginArray 18 = .ok (.iload_n 1, 1) := by decide +kernel
theorem prd_M_beginArray_19 : decode prb_M_beginArray 19 = .ok (.iload_n 2, 1) := by decide +kernel
theorem prd_M_beginArray_20 : decode prb_M_beginArray 20 = .ok (.iastore, 1) := by decide +kernel
theorem prd_M_beginArray_21 : decode prb_M_beginArray 21 = .ok (.iconst 0, 1) := by decide +kernel
theorem prd_M_beginArray_22 : decode prb_M_beginArray 22 = .ok (.istore_n 3, 1) := by decide +kernel
theorem prd_M_beginArray_23 : decode prb_M_beginArray 23 = .ok (.iload_n 3, 1) := by decide +kernel
theorem prd_M_beginArray_24 : decode prb_M_beginArray 24 = .ok (.bipush 64, 2) := by decide +kernel
theorem prd_M_beginArray_26 : decode prb_M_beginArray 26 = .ok (.if_icmp .ge 21, 3) := by decide +kernel
theorem prd_M_beginArray_47 : decode prb_M_beginArray 47 = .ok (.return_, 1) := by decide +kernel
theorem prd_M_beginArray_29 : decode prb_M_beginArray 29 = .ok (.aload_n 0, 1) := by decide +kernel
theorem prd_M_beginArray_30 : decode prb_M_beginArray 30 = .ok (.getfield 21, 3) := by decide +kernel
theorem prd_M_beginArray_33 : decode prb_M_beginArray 33 = .ok (.iload_n 1, 1) := by decide +kernel
theorem prd_M_beginArray_34 : decode prb_M_beginArray 34 = .ok (.bipush 64, 2) := by decide +kernel
theorem prd_M_beginArray_36 : decode prb_M_beginArray 36 = .ok (.imul, 1) := by decide +kernel
theorem prd_M_beginArray_37 : decode prb_M_beginArray 37 = .ok (.iload_n 3, 1) := by decide +kernel
theorem prd_M_beginArray_38 : decode prb_M_beginArray 38 = .ok (.iadd, 1) := by decide +kernel
theorem prd_M_beginArray_39 : decode prb_M_beginArray 39 = .ok (.iconst 0, 1) := by decide +kernel
theorem prd_M_beginArray_40 : decode prb_M_beginArray 40 = .ok (.iastore, 1) := by decide +kernel
theorem prd_M_beginArray_41 : decode prb_M_beginArray 41 = .ok (.iinc 3 1, 3) := by decide +kernel
theorem prd_M_beginArray_44 : decode prb_M_beginArray 44 = .ok (.goto (-21), 3) := by decide +kernel
theorem prd_M_setNumber_0 : decode prb_M_setNumber 0 = .ok (.iload_n 1, 1) := by decide +kernel
theorem prd_M_setNumber_1 : decode prb_M_setNumber 1 = .ok (.ifCond .lt 19, 3) := by decide +kernel
theorem prd_M_setNumber_20 : decode prb_M_setNumber 20 = .ok (.return_, 1) := by decide +kernel
theorem prd_M_setNumber_4 : decode prb_M_setNumber 4 = .ok (.iload_n 1, 1) := by decide +kernel
theorem prd_M_setNumber_5 : decode prb_M_setNumber 5 = .ok (.aload_n 0, 1) := by decide +kernel
theorem prd_M_setNumber_6 : decode prb_M_setNumber 6 = .ok (.getfield 15, 3) := by decide +kernel
theorem prd_M_setNumber_9 : decode prb_M_setNumber 9 = .ok (.arraylength, 1) := by decide +kernel
theorem prd_M_setNumber_10 : decode prb_M_setNumber 10 = .ok (.if_icmp .ge 10, 3) := by decide +kernel
theorem prd_M_setNumber_13 : decode prb_M_setNumber 13 = .ok (.aload_n 0, 1) := by decide +kernel
theorem prd_M_setNumber_14 : decode prb_M_setNumber 14 = .ok (.getfield 15, 3) := by decide +kernel
theorem prd_M_setNumber_17 : decode prb_M_setNumber 17 = .ok (.iload_n 1, 1) := by decide +kernel
theorem prd_M_setNumber_18 : decode prb_M_setNumber 18 = .ok (.iload_n 2, 1) := by decide +kernel
theorem prd_M_setNumber_19 : decode prb_M_setNumber 19 = .ok (.iastore, 1) := by decide +kernel
theorem prd_M_beginVariable_0 : decode prb_M_beginVariable 0 = .ok (.aload_n 0, 1) := by decide +kernel
theorem prd_M_beginVariable_1 : decode prb_M_beginVariable 1 = .ok (.iload_n 1, 1) := by decide +kernel
theorem prd_M_beginVariable_2 : decode prb_M_beginVariable 2 = .ok (.invokevirtual 94, 3) := by decide +kernel
theorem prd_M_beginVariable_5 : decode prb_M_beginVariable 5 = .ok (.istore_n 2, 1) := by decide +kernel
theorem prd_M_beginVariable_6 : decode prb_M_beginVariable 6 = .ok (.aload_n 0, 1) := by decide +kernel
theorem prd_M_beginVariable_7 : decode prb_M_beginVariable 7 = .ok (.getfield 27, 3) := by decide +kernel
theorem prd_M_beginVariable_10 : decode prb_M_beginVariable 10 = .ok (.iload_n 2, 1) := by decide +kernel
theorem prd_M_beginVariable_11 : decode prb_M_beginVariable 11 = .ok (.iconst 2, 1) := by decide +kernel
theorem prd_M_beginVariable_12 : decode prb_M_beginVariable 12 = .ok (.iadd, 1) := by decide +kernel
theorem prd_M_beginVariable_13 : decode prb_M_beginVariable 13 = .ok (.invokevirtual 140, 3) := by decide +kernel
theorem prd_M_beginVariable_16 : decode prb_M_beginVariable 16 = .ok (.bipush 16, 2) := by decide +kernel
theorem prd_M_beginVariable_18 : decode prb_M_beginVariable 18 = .ok (.if_icmp .ne 28, 3) := by decide +kernel
theorem prd_M_beginVariable_46 : decode prb_M_beginVariable 46 = .ok (.aload_n 0, 1) := by decide +kernel
theorem prd_M_beginVariable_47 : decode prb_M_beginVariable 47 = .ok (.aload_n 0, 1) := by decide +kernel
theorem prd_M_beginVariable_48 : decode prb_M_beginVariable 48 = .ok (.getfield 35, 3) := by decide +kernel
theorem prd_M_beginVariable_51 : decode prb_M_beginVariable 51 = .ok (.iload_n 1, 1) := by decide +kernel
theorem prd_M_beginVariable_52 : decode prb_M_beginVariable 52 = .ok (.invokevirtual 55, 3) := by decide +kernel
theorem prd_M_beginVariable_55 : decode prb_M_beginVariable 55 = .ok (.aload_n 0, 1) := by decide +kernel
theorem prd_M_beginVariable_56 : decode prb_M_beginVariable 56 = .ok (.getfield 111, 3) := by decide +kernel
theorem prd_M_beginVariable_59 : decode prb_M_beginVariable 59 = .ok (.ifCond .le 11, 3) := by decide +kernel
theorem prd_M_beginVariable_70 : decode prb_M_beginVariable 70 = .ok (.iconst 0, 1) := by decide +kernel
theorem prd_M_beginVariable_71 : decode prb_M_beginVariable 71 = .ok (.invokevirtual 103, 3) := by decide +kernel
theorem prd_M_beginVariable_74 : decode prb_M_beginVariable 74 = .ok (.return_, 1) := by decide +kernel
theorem prd_M_beginVariable_62 : decode prb_M_beginVariable 62 = .ok (.aload_n 0, 1) := by decide +kernel
theorem prd_M_beginVariable_63 : decode prb_M_beginVariable 63 = .ok (.iconst 0, 1) := by decide +kernel
theorem prd_M_beginVariable_64 : decode prb_M_beginVariable 64 = .ok (.invokevirtual 100, 3) := by decide +kernel
theorem prd_M_beginVariable_67 : decode prb_M_beginVariable 67 = .ok (.goto 4, 3) := by decide +kernel
theorem prd_M_beginVariable_21 : decode prb_M_beginVariable 21 = .ok (.aload_n 0, 1) := by decide +kernel
theorem prd_M_beginVariable_22 : decode prb_M_beginVariable 22 = .ok (.aload_n 0, 1) := by decide +kernel
theorem prd_M_beginVariable_23 : decode prb_M_beginVariable 23 = .ok (.getfield 35, 3) := by decide +kernel
theorem prd_M_beginVariable_26 : decode prb_M_beginVariable 26 = .ok (.iload_n 1, 1) := by decide +kernel
theorem prd_M_beginVariable_27 : decode prb_M_beginVariable 27 = .ok (.invokevirtual 64, 3) := by decide +kernel
theorem prd_M_beginVariable_30 : decode prb_M_beginVariable 30 = .ok (.aload_n 0, 1) := by decide +kernel
theorem prd_M_beginVariable_31 : decode prb_M_beginVariable 31 = .ok (.getfield 27, 3) := by decide +kernel
theorem prd_M_beginVariable_34 : decode prb_M_beginVariable 34 = .ok (.iload_n 2, 1) := by decide +kernel
theorem prd_M_beginVariable_35 : decode prb_M_beginVariable 35 = .ok (.iconst 3, 1) := by decide +kernel
theorem prd_M_beginVariable_36 : decode prb_M_beginVariable 36 = .ok (.iadd, 1) := by decide +kernel
theorem prd_M_beginVariable_37 : decode prb_M_beginVariable 37 = .ok (.invokevirtual 145, 3) := by decide +kernel
theorem prd_M_beginVariable_40 : decode prb_M_beginVariable 40 = .ok (.invokevirtual 148, 3) := by decide +kernel
theorem prd_M_beginVariable_43 : decode prb_M_beginVariable 43 = .ok (.goto 31, 3) := by decide +kernel
theorem prd_M_setPlace_0 : decode prb_M_setPlace 0 = .ok (.aload_n 0, 1) := by decide +kernel
theorem prd_M_setPlace_1 : decode prb_M_setPlace 1 = .ok (.iload_n 1, 1) := by decide +kernel
theorem prd_M_setPlace_2 : decode prb_M_setPlace 2 = .ok (.iload_n 2, 1) := by decide +kernel
theorem prd_M_setPlace_3 : decode prb_M_setPlace 3 = .ok (.invokevirtual 67, 3) := by decide +kernel
theorem prd_M_setPlace_6 : decode prb_M_setPlace 6 = .ok (.ifCond .eq 15, 3) := by decide +kernel
theorem prd_M_setPlace_21 : decode prb_M_setPlace 21 = .ok (.return_, 1) := by decide +kernel
theorem prd_M_setPlace_9 : decode prb_M_setPlace 9 = .ok (.aload_n 0, 1) := by decide +kernel
theorem prd_M_setPlace_10 : decode prb_M_setPlace 10 = .ok (.getfield 21, 3) := by decide +kernel
theorem prd_M_setPlace_13 : decode prb_M_setPlace 13 = .ok (.iload_n 1, 1) := by decide +kernel
theorem prd_M_setPlace_14 : decode prb_M_setPlace 14 = .ok (.bipush 64, 2) := by decide +kernel
theorem prd_M_setPlace_16 : decode prb_M_setPlace 16 = .ok (.imul, 1) := by decide +kernel
theorem prd_M_setPlace_17 : decode prb_M_setPlace 17 = .ok (.iload_n 2, 1) := by decide +kernel
theorem prd_M_setPlace_18 : decode prb_M_setPlace 18 = .ok (.iadd, 1) := by decide +kernel
theorem prd_M_setPlace_19 : decode prb_M_setPlace 19 = .ok (.iload_n 3, 1) := by decide +kernel
theorem prd_M_setPlace_20 : decode prb_M_setPlace 20 = .ok (.iastore, 1) := by decide +kernel
theorem prd_M_step_0 : decode prb_M_step 0 = .ok (.aload_n 0, 1) := by decide +kernel
theorem prd_M_step_1 : decode prb_M_step 1 = .ok (.iload_n 1, 1) := by decide +kernel
theorem prd_M_step_2 : decode prb_M_step 2 = .ok (.invokevirtual 84, 3) := by decide +kernel
theorem prd_M_step_5 : decode prb_M_step 5 = .ok (.aload_n 0, 1) := by decide +kernel
theorem prd_M_step_6 : decode prb_M_step 6 = .ok (.getfield 52, 3) := by decide +kernel
theorem prd_M_step_9 : decode prb_M_step 9 = .ok (.ifCond .eq 5, 3) := by decide +kernel
theorem prd_M_step_14 : decode prb_M_step 14 = .ok (.aload_n 0, 1) := by decide +kernel
theorem prd_M_step_15 : decode prb_M_step 15 = .ok (.getfield 35, 3) := by decide +kernel
theorem prd_M_step_18 : decode prb_M_step 18 = .ok (.iload_n 1, 1) := by decide +kernel
theorem prd_M_step_19 : decode prb_M_step 19 = .ok (.invokevirtual 78, 3) := by decide +kernel
theorem prd_M_step_22 : decode prb_M_step 22 = .ok (.tableswitch 250 1 7 #[42, 56, 84, 112, 156, 184, 212], 42) := by decide +kernel
theorem prd_M_step_64 : decode prb_M_step 64 = .ok (.aload_n 0, 1) := by decide +kernel
theorem prd_M_step_65 : decode prb_M_step 65 = .ok (.iload_n 1, 1) := by decide +kernel
theorem prd_M_step_66 : decode prb_M_step 66 = .ok (.invokevirtual 88, 3) := by decide +kernel
theorem prd_M_step_69 : decode prb_M_step 69 = .ok (.aload_n 0, 1) := by decide +kernel
theorem prd_M_step_70 : decode prb_M_step 70 = .ok (.getfield 35, 3) := by decide +kernel
theorem prd_M_step_73 : decode prb_M_step 73 = .ok (.iload_n 1, 1) := by decide +kernel
theorem prd_M_step_74 : decode prb_M_step 74 = .ok (.invokevirtual 91, 3) := by decide +kernel
theorem prd_M_step_77 : decode prb_M_step 77 = .ok (.ireturn, 1) := by decide +kernel
theorem prd_M_step_78 : decode prb_M_step 78 = .ok (.aload_n 0, 1) := by decide +kernel
theorem prd_M_step_79 : decode prb_M_step 79 = .ok (.aload_n 0, 1) := by decide +kernel
theorem prd_M_step_80 : decode prb_M_step 80 = .ok (.iload_n 1, 1) := by decide +kernel
theorem prd_M_step_81 : decode prb_M_step 81 = .ok (.aload_n 0, 1) := by decide +kernel
theorem prd_M_step_82 : decode prb_M_step 82 = .ok (.iload_n 1, 1) := by decide +kernel
theorem prd_M_step_83 : decode prb_M_step 83 = .ok (.invokevirtual 94, 3) := by decide +kernel
theorem prd_M_step_86 : decode prb_M_step 86 = .ok (.invokevirtual 97, 3) := by decide +kernel
theorem prd_M_step_89 : decode prb_M_step 89 = .ok (.aload_n 0, 1) := by decide +kernel
theorem prd_M_step_90 : decode prb_M_step 90 = .ok (.iconst 0, 1) := by decide +kernel
theorem prd_M_step_91 : decode prb_M_step 91 = .ok (.invokevirtual 100, 3) := by decide +kernel
theorem prd_M_step_94 : decode prb_M_step 94 = .ok (.invokevirtual 103, 3) := by decide +kernel
theorem prd_M_step_97 : decode prb_M_step 97 = .ok (.aload_n 0, 1) := by decide +kernel
theorem prd_M_step_98 : decode prb_M_step 98 = .ok (.getfield 35, 3) := by decide +kernel
theorem prd_M_step_101 : decode prb_M_step 101 = .ok (.iload_n 1, 1) := by decide +kernel
theorem prd_M_step_102 : decode prb_M_step 102 = .ok (.invokevirtual 91, 3) := by decide +kernel
theorem prd_M_step_105 : decode prb_M_step 105 = .ok (.ireturn, 1) := by decide +kernel
theorem prd_M_step_106 : decode prb_M_step 106 = .ok (.aload_n 0, 1) := by decide +kernel
theorem prd_M_step_107 : decode prb_M_step 107 = .ok (.aload_n 0, 1) := by decide +kernel
theorem prd_M_step_108 : decode prb_M_step 108 = .ok (.iconst 0, 1) := by decide +kernel
theorem prd_M_step_109 : decode prb_M_step 109 = .ok (.invokevirtual 100, 3) := by decide +kernel
theorem prd_M_step_112 : decode prb_M_step 112 = .ok (.aload_n 0, 1) := by decide +kernel
theorem prd_M_step_113 : decode prb_M_step 113 = .ok (.iconst 1, 1) := by decide +kernel
theorem prd_M_step_114 : decode prb_M_step 114 = .ok (.invokevirtual 100, 3) := by decide +kernel
theorem prd_M_step_117 : decode prb_M_step 117 = .ok (.aload_n 0, 1) := by decide +kernel
theorem prd_M_step_118 : decode prb_M_step 118 = .ok (.iconst 2, 1) := by decide +kernel
theorem prd_M_step_119 : decode prb_M_step 119 = .ok (.invokevirtual 100, 3) := by decide +kernel
theorem prd_M_step_122 : decode prb_M_step 122 = .ok (.invokevirtual 107, 3) := by decide +kernel
theorem prd_M_step_125 : decode prb_M_step 125 = .ok (.aload_n 0, 1) := by decide +kernel
theorem prd_M_step_126 : decode prb_M_step 126 = .ok (.getfield 35, 3) := by decide +kernel
theorem prd_M_step_129 : decode prb_M_step 129 = .ok (.iload_n 1, 1) := by decide +kernel
theorem prd_M_step_130 : decode prb_M_step 130 = .ok (.invokevirtual 91, 3) := by decide +kernel
theorem prd_M_step_133 : decode prb_M_step 133 = .ok (.ireturn, 1) := by decide +kernel
theorem prd_M_step_134 : decode prb_M_step 134 = .ok (.iconst 0, 1) := by decide +kernel
theorem prd_M_step_135 : decode prb_M_step 135 = .ok (.istore_n 2, 1) := by decide +kernel
theorem prd_M_step_178 : decode prb_M_step 178 = .ok (.aload_n 0, 1) := by decide +kernel
theorem prd_M_step_179 : decode prb_M_step 179 = .ok (.iconst 0, 1) := by decide +kernel
theorem prd_M_step_180 : decode prb_M_step 180 = .ok (.invokevirtual 100, 3) := by decide +kernel
theorem prd_M_step_183 : decode prb_M_step 183 = .ok (.ifCond .eq 14, 3) := by decide +kernel
theorem prd_M_step_197 : decode prb_M_step 197 = .ok (.aload_n 0, 1) := by decide +kernel
theorem prd_M_step_198 : decode prb_M_step 198 = .ok (.getfield 35, 3) := by decide +kernel
theorem prd_M_step_201 : decode prb_M_step 201 = .ok (.iload_n 1, 1) := by decide +kernel
theorem prd_M_step_202 : decode prb_M_step 202 = .ok (.invokevirtual 117, 3) := by decide +kernel
theorem prd_M_step_205 : decode prb_M_step 205 = .ok (.ireturn, 1) := by decide +kernel
theorem prd_M_step_186 : decode prb_M_step 186 = .ok (.aload_n 0, 1) := by decide +kernel
theorem prd_M_step_187 : decode prb_M_step 187 = .ok (.getfield 35, 3) := by decide +kernel
theorem prd_M_step_190 : decode prb_M_step 190 = .ok (.iload_n 1, 1) := by decide +kernel
theorem prd_M_step_191 : decode prb_M_step 191 = .ok (.invokevirtual 114, 3) := by decide +kernel
theorem prd_M_step_194 : decode prb_M_step 194 = .ok (.goto 11, 3) := by decide +kernel
theorem prd_M_step_206 : decode prb_M_step 206 = .ok (.aload_n 0, 1) := by decide +kernel
theorem prd_M_step_207 : decode prb_M_step 207 = .ok (.iconst 0, 1) := by decide +kernel
theorem prd_M_step_208 : decode prb_M_step 208 = .ok (.invokevirtual 100, 3) := by decide +kernel
theorem prd_M_step_211 : decode prb_M_step 211 = .ok (.ifCond .eq 14, 3) := by decide +kernel
theorem prd_M_step_225 : decode prb_M_step 225 = .ok (.aload_n 0, 1) := by decide +kernel
theorem prd_M_step_226 : decode prb_M_step 226 = .ok (.getfield 35, 3) := by decide +kernel
theorem prd_M_step_229 : decode prb_M_step 229 = .ok (.iload_n 1, 1) := by decide +kernel
theorem prd_M_step_230 : decode prb_M_step 230 = .ok (.invokevirtual 91, 3) := by decide +kernel
theorem prd_M_step_233 : decode prb_M_step 233 = .ok (.ireturn, 1) := by decide +kernel
theorem prd_M_step_214 : decode prb_M_step 214 = .ok (.aload_n 0, 1) := by decide +kernel
theorem prd_M_step_215 : decode prb_M_step 215 = .ok (.getfield 35, 3) := by decide +kernel
theorem prd_M_step_218 : decode prb_M_step 218 = .ok (.iload_n 1, 1) := by decide +kernel
theorem prd_M_step_219 : decode prb_M_step 219 = .ok (.invokevirtual 114, 3) := by decide +kernel
theorem prd_M_step_222 : decode prb_M_step 222 = .ok (.goto 11, 3) := by decide +kernel
theorem prd_M_step_234 : decode prb_M_step 234 = .ok (.aload_n 0, 1) := by decide +kernel
theorem prd_M_step_235 : decode prb_M_step 235 = .ok (.aload_n 0, 1) := by decide +kernel
theorem prd_M_step_236 : decode prb_M_step 236 = .ok (.iconst 0, 1) := by decide +kernel
theorem prd_M_step_237 : decode prb_M_step 237 = .ok (.invokevirtual 100, 3) := by decide +kernel
theorem prd_M_step_240 : decode prb_M_step 240 = .ok (.ifCond .eq 7, 3) := by decide +kernel
theorem prd_M_step_247 : decode prb_M_step 247 = .ok (.bipush 8, 2) := by decide +kernel
theorem prd_M_step_249 : decode prb_M_step 249 = .ok (.putfield 52, 3) := by decide +kernel
theorem prd_M_step_252 : decode prb_M_step 252 = .ok (.aload_n 0, 1) := by decide +kernel
theorem prd_M_step_253 : decode prb_M_step 253 = .ok (.getfield 52, 3) := by decide +kernel
theorem prd_M_step_256 : decode prb_M_step 256 = .ok (.ifCond .eq 7, 3) := by decide +kernel
theorem prd_M_step_263 : decode prb_M_step 263 = .ok (.aload_n 0, 1) := by decide +kernel
theorem prd_M_step_264 : decode prb_M_step 264 = .ok (.getfield 35, 3) := by decide +kernel
theorem prd_M_step_267 : decode prb_M_step 267 = .ok (.iload_n 1, 1) := by decide +kernel
theorem prd_M_step_268 : decode prb_M_step 268 = .ok (.invokevirtual 91, 3) := by decide +kernel
theorem prd_M_step_271 : decode prb_M_step 271 = .ok (.ireturn, 1) := by decide +kernel
theorem prd_M_step_259 : decode prb_M_step 259 = .ok (.iload_n 1, 1) := by decide +kernel
theorem prd_M_step_260 : decode prb_M_step 260 = .ok (.goto 11, 3) := by decide +kernel
theorem prd_M_step_243 : decode prb_M_step 243 = .ok (.iconst 0, 1) := by decide +kernel
theorem prd_M_step_244 : decode prb_M_step 244 = .ok (.goto 5, 3) := by decide +kernel
theorem prd_M_step_272 : decode prb_M_step 272 = .ok (.aload_n 0, 1) := by decide +kernel
theorem prd_M_step_273 : decode prb_M_step 273 = .ok (.aload_n 0, 1) := by decide +kernel
theorem prd_M_step_274 : decode prb_M_step 274 = .ok (.getfield 35, 3) := by decide +kernel
theorem prd_M_step_277 : decode prb_M_step 277 = .ok (.aload_n 0, 1) := by decide +kernel
theorem prd_M_step_278 : decode prb_M_step 278 = .ok (.getfield 35, 3) := by decide +kernel
theorem prd_M_step_281 : decode prb_M_step 281 = .ok (.iload_n 1, 1) := by decide +kernel
theorem prd_M_step_282 : decode prb_M_step 282 = .ok (.invokevirtual 120, 3) := by decide +kernel
theorem prd_M_step_285 : decode prb_M_step 285 = .ok (.invokevirtual 123, 3) := by decide +kernel
theorem prd_M_step_288 : decode prb_M_step 288 = .ok (.aload_n 0, 1) := by decide +kernel
theorem prd_M_step_289 : decode prb_M_step 289 = .ok (.iconst 0, 1) := by decide +kernel
theorem prd_M_step_290 : decode prb_M_step 290 = .ok (.invokevirtual 100, 3) := by decide +kernel
theorem prd_M_step_293 : decode prb_M_step 293 = .ok (.invokevirtual 103, 3) := by decide +kernel
theorem prd_M_step_296 : decode prb_M_step 296 = .ok (.aload_n 0, 1) := by decide +kernel
theorem prd_M_step_297 : decode prb_M_step 297 = .ok (.getfield 35, 3) := by decide +kernel
theorem prd_M_step_300 : decode prb_M_step 300 = .ok (.iload_n 1, 1) := by decide +kernel
theorem prd_M_step_301 : decode prb_M_step 301 = .ok (.invokevirtual 91, 3) := by decide +kernel
theorem prd_M_step_304 : decode prb_M_step 304 = .ok (.ireturn, 1) := by decide +kernel
theorem prd_M_step_12 : decode prb_M_step 12 = .ok (.iload_n 1, 1) := by decide +kernel
theorem prd_M_step_13 : decode prb_M_step 13 = .ok (.ireturn, 1) := by decide +kernel
theorem prd_M_step_136 : decode prb_M_step 136 = .ok (.iload_n 2, 1) := by decide +kernel
theorem prd_M_step_137 : decode prb_M_step 137 = .ok (.aload_n 0, 1) := by decide +kernel
theorem prd_M_step_138 : decode prb_M_step 138 = .ok (.getfield 111, 3) := by decide +kernel
theorem prd_M_step_141 : decode prb_M_step 141 = .ok (.if_icmp .ge 28, 3) := by decide +kernel
theorem prd_M_step_169 : decode prb_M_step 169 = .ok (.aload_n 0, 1) := by decide +kernel
theorem prd_M_step_170 : decode prb_M_step 170 = .ok (.getfield 35, 3) := by decide +kernel
theorem prd_M_step_173 : decode prb_M_step 173 = .ok (.iload_n 1, 1) := by decide +kernel
theorem prd_M_step_174 : decode prb_M_step 174 = .ok (.invokevirtual 114, 3) := by decide +kernel
theorem prd_M_step_177 : decode prb_M_step 177 = .ok (.ireturn, 1) := by decide +kernel
theorem prd_M_step_144 : decode prb_M_step 144 = .ok (.aload_n 0, 1) := by decide +kernel
theorem prd_M_step_145 : decode prb_M_step 145 = .ok (.aload_n 0, 1) := by decide +kernel
theorem prd_M_step_146 : decode prb_M_step 146 = .ok (.getfield 35, 3) := by decide +kernel
theorem prd_M_step_149 : decode prb_M_step 149 = .ok (.iload_n 1, 1) := by decide +kernel
theorem prd_M_step_150 : decode prb_M_step 150 = .ok (.invokevirtual 55, 3) := by decide +kernel
theorem prd_M_step_153 : decode prb_M_step 153 = .ok (.iload_n 2, 1) := by decide +kernel
theorem prd_M_step_154 : decode prb_M_step 154 = .ok (.iadd, 1) := by decide +kernel
theorem prd_M_step_155 : decode prb_M_step 155 = .ok (.aload_n 0, 1) := by decide +kernel
theorem prd_M_step_156 : decode prb_M_step 156 = .ok (.iload_n 2, 1) := by decide +kernel
theorem prd_M_step_157 : decode prb_M_step 157 = .ok (.invokevirtual 100, 3) := by decide +kernel
theorem prd_M_step_160 : decode prb_M_step 160 = .ok (.invokevirtual 103, 3) := by decide +kernel
theorem prd_M_step_163 : decode prb_M_step 163 = .ok (.iinc 2 1, 3) := by decide +kernel
theorem prd_M_step_166 : decode prb_M_step 166 = .ok (.goto (-30), 3) := by decide +kernel
theorem prd_M_runSteps_0 : decode prb_M_runSteps 0 = .ok (.aload_n 0, 1) := by decide +kernel
theorem prd_M_runSteps_1 : decode prb_M_runSteps 1 = .ok (.invokevirtual 75, 3) := by decide +kernel
theorem prd_M_runSteps_4 : decode prb_M_runSteps 4 = .ok (.iconst 0, 1) := by decide +kernel
theorem prd_M_runSteps_5 : decode prb_M_runSteps 5 = .ok (.istore_n 2, 1) := by decide +kernel
theorem prd_M_runSteps_6 : decode prb_M_runSteps 6 = .ok (.iload_n 2, 1) := by decide +kernel
theorem prd_M_runSteps_7 : decode prb_M_runSteps 7 = .ok (.iload_n 1, 1) := by decide +kernel
theorem prd_M_runSteps_8 : decode prb_M_runSteps 8 = .ok (.if_icmp .ge 52, 3) := by decide +kernel
theorem prd_M_runSteps_11 : decode prb_M_runSteps 11 = .ok (.aload_n 0, 1) := by decide +kernel
theorem prd_M_runSteps_12 : decode prb_M_runSteps 12 = .ok (.getfield 52, 3) := by decide +kernel
theorem prd_M_runSteps_15 : decode prb_M_runSteps 15 = .ok (.ifCond .ne 45, 3) := by decide +kernel
theorem prd_M_runSteps_18 : decode prb_M_runSteps 18 = .ok (.aload_n 0, 1) := by decide +kernel
theorem prd_M_runSteps_19 : decode prb_M_runSteps 19 = .ok (.getfield 35, 3) := by decide +kernel
theorem prd_M_runSteps_22 : decode prb_M_runSteps 22 = .ok (.aload_n 0, 1) := by decide +kernel
theorem prd_M_runSteps_23 : decode prb_M_runSteps 23 = .ok (.getfield 43, 3) := by decide +kernel
theorem prd_M_runSteps_26 : decode prb_M_runSteps 26 = .ok (.invokevirtual 78, 3) := by decide +kernel
theorem prd_M_runSteps_29 : decode prb_M_runSteps 29 = .ok (.ifCond .eq 31, 3) := by decide +kernel
theorem prd_M_runSteps_32 : decode prb_M_runSteps 32 = .ok (.aload_n 0, 1) := by decide +kernel
theorem prd_M_runSteps_33 : decode prb_M_runSteps 33 = .ok (.dup, 1) := by decide +kernel
theorem prd_M_runSteps_34 : decode prb_M_runSteps 34 = .ok (.getfield 46, 3) := by decide +kernel
theorem prd_M_runSteps_37 : decode prb_M_runSteps 37 = .ok (.iconst 1, 1) := by decide +kernel
theorem prd_M_runSteps_38 : decode prb_M_runSteps 38 = .ok (.iadd, 1) := by decide +kernel
theorem prd_M_runSteps_39 : decode prb_M_runSteps 39 = .ok (.putfield 46, 3) := by decide +kernel
theorem prd_M_runSteps_42 : decode prb_M_runSteps 42 = .ok (.aload_n 0, 1) := by decide +kernel
theorem prd_M_runSteps_43 : decode prb_M_runSteps 43 = .ok (.aload_n 0, 1) := by decide +kernel
theorem prd_M_runSteps_44 : decode prb_M_runSteps 44 = .ok (.aload_n 0, 1) := by decide +kernel
theorem prd_M_runSteps_45 : decode prb_M_runSteps 45 = .ok (.getfield 43, 3) := by decide +kernel
theorem prd_M_runSteps_48 : decode prb_M_runSteps 48 = .ok (.invokevirtual 81, 3) := by decide +kernel
theorem prd_M_runSteps_51 : decode prb_M_runSteps 51 = .ok (.putfield 43, 3) := by decide +kernel
theorem prd_M_runSteps_54 : decode prb_M_runSteps 54 = .ok (.iinc 2 1, 3) := by decide +kernel
theorem prd_M_runSteps_57 : decode prb_M_runSteps 57 = .ok (.goto (-51), 3) := by decide +kernel
theorem prd_M_runSteps_60 : decode prb_M_runSteps 60 = .ok (.aload_n 0, 1) := by decide +kernel
theorem prd_M_runSteps_61 : decode prb_M_runSteps 61 = .ok (.getfield 52, 3) := by decide +kernel
theorem prd_M_runSteps_64 : decode prb_M_runSteps 64 = .ok (.ifCond .eq 8, 3) := by decide +kernel
theorem prd_M_runSteps_72 : decode prb_M_runSteps 72 = .ok (.aload_n 0, 1) := by decide +kernel
theorem prd_M_runSteps_73 : decode prb_M_runSteps 73 = .ok (.getfield 35, 3) := by decide +kernel
theorem prd_M_runSteps_76 : decode prb_M_runSteps 76 = .ok (.aload_n 0, 1) := by decide +kernel
theorem prd_M_runSteps_77 : decode prb_M_runSteps 77 = .ok (.getfield 43, 3) := by decide +kernel
theorem prd_M_runSteps_80 : decode prb_M_runSteps 80 = .ok (.invokevirtual 78, 3) := by decide +kernel
theorem prd_M_runSteps_83 : decode prb_M_runSteps 83 = .ok (.ifCond .ne 7, 3) := by decide +kernel
theorem prd_M_runSteps_90 : decode prb_M_runSteps 90 = .ok (.bipush 16, 2) := by decide +kernel
theorem prd_M_runSteps_92 : decode prb_M_runSteps 92 = .ok (.ireturn, 1) := by decide +kernel
theorem prd_M_runSteps_86 : decode prb_M_runSteps 86 = .ok (.iconst 0, 1) := by decide +kernel
theorem prd_M_runSteps_87 : decode prb_M_runSteps 87 = .ok (.goto 5, 3) := by decide +kernel
theorem prd_M_runSteps_67 : decode prb_M_runSteps 67 = .ok (.aload_n 0, 1) := by decide +kernel
theorem prd_M_runSteps_68 : decode prb_M_runSteps 68 = .ok (.getfield 52, 3) := by decide +kernel
theorem prd_M_runSteps_71 : decode prb_M_runSteps 71 = .ok (.ireturn, 1) := by decide +kernel
theorem prd_M_standsAt_0 : decode prb_M_standsAt 0 = .ok (.aload_n 0, 1) := by decide +kernel
theorem prd_M_standsAt_1 : decode prb_M_standsAt 1 = .ok (.getfield 43, 3) := by decide +kernel
theorem prd_M_standsAt_4 : decode prb_M_standsAt 4 = .ok (.ireturn, 1) := by decide +kernel
theorem prd_M_stepsDone_0 : decode prb_M_stepsDone 0 = .ok (.aload_n 0, 1) := by decide +kernel
theorem prd_M_stepsDone_1 : decode prb_M_stepsDone 1 = .ok (.getfield 46, 3) := by decide +kernel
theorem prd_M_stepsDone_4 : decode prb_M_stepsDone 4 = .ok (.ireturn, 1) := by decide +kernel
theorem prd_M_inputsTaken_0 : decode prb_M_inputsTaken 0 = .ok (.aload_n 0, 1) := by decide +kernel
theorem prd_M_inputsTaken_1 : decode prb_M_inputsTaken 1 = .ok (.getfield 49, 3) := by decide +kernel
theorem prd_M_inputsTaken_4 : decode prb_M_inputsTaken 4 = .ok (.ireturn, 1) := by decide +kernel
theorem prd_M_numberIn_0 : decode prb_M_numberIn 0 = .ok (.iload_n 1, 1) := by decide +kernel
theorem prd_M_numberIn_1 : decode prb_M_numberIn 1 = .ok (.ifCond .lt 26, 3) := by decide +kernel
theorem prd_M_numberIn_27 : decode prb_M_numberIn 27 = .ok (.iconst 0, 1) := by decide +kernel
theorem prd_M_numberIn_28 : decode prb_M_numberIn 28 = .ok (.ireturn, 1) := by decide +kernel
theorem prd_M_numberIn_4 : decode prb_M_numberIn 4 = .ok (.iload_n 1, 1) := by decide +kernel
theorem prd_M_numberIn_5 : decode prb_M_numberIn 5 = .ok (.aload_n 0, 1) := by decide +kernel
theorem prd_M_numberIn_6 : decode prb_M_numberIn 6 = .ok (.getfield 35, 3) := by decide +kernel
theorem prd_M_numberIn_9 : decode prb_M_numberIn 9 = .ok (.aload_n 0, 1) := by decide +kernel
theorem prd_M_numberIn_10 : decode prb_M_numberIn 10 = .ok (.getfield 43, 3) := by decide +kernel
theorem prd_M_numberIn_13 : decode prb_M_numberIn 13 = .ok (.invokevirtual 55, 3) := by decide +kernel
theorem prd_M_numberIn_16 : decode prb_M_numberIn 16 = .ok (.if_icmp .ge 11, 3) := by decide +kernel
theorem prd_M_numberIn_19 : decode prb_M_numberIn 19 = .ok (.aload_n 0, 1) := by decide +kernel
theorem prd_M_numberIn_20 : decode prb_M_numberIn 20 = .ok (.iload_n 1, 1) := by decide +kernel
theorem prd_M_numberIn_21 : decode prb_M_numberIn 21 = .ok (.invokevirtual 61, 3) := by decide +kernel
theorem prd_M_numberIn_24 : decode prb_M_numberIn 24 = .ok (.goto 4, 3) := by decide +kernel
theorem prd_M_placeIn_0 : decode prb_M_placeIn 0 = .ok (.iload_n 1, 1) := by decide +kernel
theorem prd_M_placeIn_1 : decode prb_M_placeIn 1 = .ok (.ifCond .lt 31, 3) := by decide +kernel
theorem prd_M_placeIn_32 : decode prb_M_placeIn 32 = .ok (.iconst 0, 1) := by decide +kernel
theorem prd_M_placeIn_33 : decode prb_M_placeIn 33 = .ok (.istore_n 3, 1) := by decide +kernel
theorem prd_M_placeIn_34 : decode prb_M_placeIn 34 = .ok (.iload_n 3, 1) := by decide +kernel
theorem prd_M_placeIn_35 : decode prb_M_placeIn 35 = .ok (.ifCond .eq 12, 3) := by decide +kernel
theorem prd_M_placeIn_47 : decode prb_M_placeIn 47 = .ok (.iconst 0, 1) := by decide +kernel
theorem prd_M_placeIn_48 : decode prb_M_placeIn 48 = .ok (.ireturn, 1) := by decide +kernel
theorem prd_M_placeIn_38 : decode prb_M_placeIn 38 = .ok (.aload_n 0, 1) := by decide +kernel
theorem prd_M_placeIn_39 : decode prb_M_placeIn 39 = .ok (.iload_n 1, 1) := by decide +kernel
theorem prd_M_placeIn_40 : decode prb_M_placeIn 40 = .ok (.iload_n 2, 1) := by decide +kernel
theorem prd_M_placeIn_41 : decode prb_M_placeIn 41 = .ok (.invokevirtual 71, 3) := by decide +kernel
theorem prd_M_placeIn_44 : decode prb_M_placeIn 44 = .ok (.goto 4, 3) := by decide +kernel
theorem prd_M_placeIn_4 : decode prb_M_placeIn 4 = .ok (.iload_n 1, 1) := by decide +kernel
theorem prd_M_placeIn_5 : decode prb_M_placeIn 5 = .ok (.aload_n 0, 1) := by decide +kernel
theorem prd_M_placeIn_6 : decode prb_M_placeIn 6 = .ok (.getfield 35, 3) := by decide +kernel
theorem prd_M_placeIn_9 : decode prb_M_placeIn 9 = .ok (.aload_n 0, 1) := by decide +kernel
theorem prd_M_placeIn_10 : decode prb_M_placeIn 10 = .ok (.getfield 43, 3) := by decide +kernel
theorem prd_M_placeIn_13 : decode prb_M_placeIn 13 = .ok (.invokevirtual 64, 3) := by decide +kernel
theorem prd_M_placeIn_16 : decode prb_M_placeIn 16 = .ok (.if_icmp .ge 16, 3) := by decide +kernel
theorem prd_M_placeIn_19 : decode prb_M_placeIn 19 = .ok (.aload_n 0, 1) := by decide +kernel
theorem prd_M_placeIn_20 : decode prb_M_placeIn 20 = .ok (.iload_n 1, 1) := by decide +kernel
theorem prd_M_placeIn_21 : decode prb_M_placeIn 21 = .ok (.iload_n 2, 1) := by decide +kernel
theorem prd_M_placeIn_22 : decode prb_M_placeIn 22 = .ok (.invokevirtual 67, 3) := by decide +kernel
theorem prd_M_placeIn_25 : decode prb_M_placeIn 25 = .ok (.ifCond .eq 7, 3) := by decide +kernel
theorem prd_M_placeIn_28 : decode prb_M_placeIn 28 = .ok (.iconst 1, 1) := by decide +kernel
theorem prd_M_placeIn_29 : decode prb_M_placeIn 29 = .ok (.goto 4, 3) := by decide +kernel

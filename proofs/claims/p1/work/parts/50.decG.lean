/-! DECODE ROWS -/
theorem prd_G_clear_0 : decode prb_G_clear 0 = .ok (.aload_n 0, 1) := by decide +kernel
theorem prd_G_clear_1 : decode prb_G_clear 1 = .ok (.iconst 0, 1) := by decide +kernel
theorem prd_G_clear_2 : decode prb_G_clear 2 = .ok (.putfield 53, 3) := by decide +kernel
theorem prd_G_clear_5 : decode prb_G_clear 5 = .ok (.aload_n 0, 1) := by decide +kernel
theorem prd_G_clear_6 : decode prb_G_clear 6 = .ok (.iconst 0, 1) := by decide +kernel
theorem prd_G_clear_7 : decode prb_G_clear 7 = .ok (.putfield 57, 3) := by decide +kernel
theorem prd_G_clear_10 : decode prb_G_clear 10 = .ok (.aload_n 0, 1) := by decide +kernel
theorem prd_G_clear_11 : decode prb_G_clear 11 = .ok (.iconst 0, 1) := by decide +kernel
theorem prd_G_clear_12 : decode prb_G_clear 12 = .ok (.putfield 60, 3) := by decide +kernel
theorem prd_G_clear_15 : decode prb_G_clear 15 = .ok (.return_, 1) := by decide +kernel
theorem prd_G_openFunction_0 : decode prb_G_openFunction 0 = .ok (.aload_n 0, 1) := by decide +kernel
theorem prd_G_openFunction_1 : decode prb_G_openFunction 1 = .ok (.getfield 53, 3) := by decide +kernel
theorem prd_G_openFunction_4 : decode prb_G_openFunction 4 = .ok (.aload_n 0, 1) := by decide +kernel
theorem prd_G_openFunction_5 : decode prb_G_openFunction 5 = .ok (.getfield 9, 3) := by decide +kernel
theorem prd_G_openFunction_8 : decode prb_G_openFunction 8 = .ok (.arraylength, 1) := by decide +kernel
theorem prd_G_openFunction_9 : decode prb_G_openFunction 9 = .ok (.if_icmp .lt 5, 3) := by decide +kernel
theorem prd_G_openFunction_14 : decode prb_G_openFunction 14 = .ok (.aload_n 0, 1) := by decide +kernel
theorem prd_G_openFunction_15 : decode prb_G_openFunction 15 = .ok (.getfield 9, 3) := by decide +kernel
theorem prd_G_openFunction_18 : decode prb_G_openFunction 18 = .ok (.aload_n 0, 1) := by decide +kernel
theorem prd_G_openFunction_19 : decode prb_G_openFunction 19 = .ok (.getfield 53, 3) := by decide +kernel
theorem prd_G_openFunction_22 : decode prb_G_openFunction 22 = .ok (.iload_n 1, 1) := by decide +kernel
theorem prd_G_openFunction_23 : decode prb_G_openFunction 23 = .ok (.iastore, 1) := by decide +kernel
theorem prd_G_openFunction_24 : decode prb_G_openFunction 24 = .ok (.aload_n 0, 1) := by decide +kernel
theorem prd_G_openFunction_25 : decode prb_G_openFunction 25 = .ok (.getfield 15, 3) := by decide +kernel
theorem prd_G_openFunction_28 : decode prb_G_openFunction 28 = .ok (.aload_n 0, 1) := by decide +kernel
theorem prd_G_openFunction_29 : decode prb_G_openFunction 29 = .ok (.getfield 53, 3) := by decide +kernel
theorem prd_G_openFunction_32 : decode prb_G_openFunction 32 = .ok (.iload_n 2, 1) := by decide +kernel
theorem prd_G_openFunction_33 : decode prb_G_openFunction 33 = .ok (.iastore, 1) := by decide +kernel
theorem prd_G_openFunction_34 : decode prb_G_openFunction 34 = .ok (.aload_n 0, 1) := by decide +kernel
theorem prd_G_openFunction_35 : decode prb_G_openFunction 35 = .ok (.getfield 18, 3) := by decide +kernel
theorem prd_G_openFunction_38 : decode prb_G_openFunction 38 = .ok (.aload_n 0, 1) := by decide +kernel
theorem prd_G_openFunction_39 : decode prb_G_openFunction 39 = .ok (.getfield 53, 3) := by decide +kernel
theorem prd_G_openFunction_42 : decode prb_G_openFunction 42 = .ok (.aload_n 0, 1) := by decide +kernel
theorem prd_G_openFunction_43 : decode prb_G_openFunction 43 = .ok (.getfield 57, 3) := by decide +kernel
theorem prd_G_openFunction_46 : decode prb_G_openFunction 46 = .ok (.iastore, 1) := by decide +kernel
theorem prd_G_openFunction_47 : decode prb_G_openFunction 47 = .ok (.aload_n 0, 1) := by decide +kernel
theorem prd_G_openFunction_48 : decode prb_G_openFunction 48 = .ok (.dup, 1) := by decide +kernel
theorem prd_G_openFunction_49 : decode prb_G_openFunction 49 = .ok (.getfield 53, 3) := by decide +kernel
theorem prd_G_openFunction_52 : decode prb_G_openFunction 52 = .ok (.iconst 1, 1) := by decide +kernel
theorem prd_G_openFunction_53 : decode prb_G_openFunction 53 = .ok (.iadd, 1) := by decide +kernel
theorem prd_G_openFunction_54 : decode prb_G_openFunction 54 = .ok (.putfield 53, 3) := by decide +kernel
theorem prd_G_openFunction_57 : decode prb_G_openFunction 57 = .ok (.iconst 1, 1) := by decide +kernel
theorem prd_G_openFunction_58 : decode prb_G_openFunction 58 = .ok (.ireturn, 1) := by decide +kernel
theorem prd_G_openFunction_12 : decode prb_G_openFunction 12 = .ok (.iconst 0, 1) := by decide +kernel
theorem prd_G_openFunction_13 : decode prb_G_openFunction 13 = .ok (.ireturn, 1) := by decide +kernel
theorem prd_G_openStatement_0 : decode prb_G_openStatement 0 = .ok (.aload_n 0, 1) := by decide +kernel
theorem prd_G_openStatement_1 : decode prb_G_openStatement 1 = .ok (.getfield 57, 3) := by decide +kernel
theorem prd_G_openStatement_4 : decode prb_G_openStatement 4 = .ok (.aload_n 0, 1) := by decide +kernel
theorem prd_G_openStatement_5 : decode prb_G_openStatement 5 = .ok (.getfield 28, 3) := by decide +kernel
theorem prd_G_openStatement_8 : decode prb_G_openStatement 8 = .ok (.arraylength, 1) := by decide +kernel
theorem prd_G_openStatement_9 : decode prb_G_openStatement 9 = .ok (.if_icmp .lt 5, 3) := by decide +kernel
theorem prd_G_openStatement_14 : decode prb_G_openStatement 14 = .ok (.aload_n 0, 1) := by decide +kernel
theorem prd_G_openStatement_15 : decode prb_G_openStatement 15 = .ok (.getfield 57, 3) := by decide +kernel
theorem prd_G_openStatement_18 : decode prb_G_openStatement 18 = .ok (.istore_n 3, 1) := by decide +kernel
theorem prd_G_openStatement_19 : decode prb_G_openStatement 19 = .ok (.aload_n 0, 1) := by decide +kernel
theorem prd_G_openStatement_20 : decode prb_G_openStatement 20 = .ok (.getfield 28, 3) := by decide +kernel
theorem prd_G_openStatement_23 : decode prb_G_openStatement 23 = .ok (.iload_n 3, 1) := by decide +kernel
theorem prd_G_openStatement_24 : decode prb_G_openStatement 24 = .ok (.iload_n 1, 1) := by decide +kernel
theorem prd_G_openStatement_25 : decode prb_G_openStatement 25 = .ok (.i2b, 1) := by decide +kernel
theorem prd_G_openStatement_26 : decode prb_G_openStatement 26 = .ok (.bastore, 1) := by decide +kernel
theorem prd_G_openStatement_27 : decode prb_G_openStatement 27 = .ok (.aload_n 0, 1) := by decide +kernel
theorem prd_G_openStatement_28 : decode prb_G_openStatement 28 = .ok (.getfield 32, 3) := by decide +kernel
theorem prd_G_openStatement_31 : decode prb_G_openStatement 31 = .ok (.iload_n 3, 1) := by decide +kernel
theorem prd_G_openStatement_32 : decode prb_G_openStatement 32 = .ok (.iload_n 2, 1) := by decide +kernel
theorem prd_G_openStatement_33 : decode prb_G_openStatement 33 = .ok (.iastore, 1) := by decide +kernel
theorem prd_G_openStatement_34 : decode prb_G_openStatement 34 = .ok (.aload_n 0, 1) := by decide +kernel
theorem prd_G_openStatement_35 : decode prb_G_openStatement 35 = .ok (.getfield 35, 3) := by decide +kernel
theorem prd_G_openStatement_38 : decode prb_G_openStatement 38 = .ok (.iload_n 3, 1) := by decide +kernel
theorem prd_G_openStatement_39 : decode prb_G_openStatement 39 = .ok (.aload_n 0, 1) := by decide +kernel
theorem prd_G_openStatement_40 : decode prb_G_openStatement 40 = .ok (.getfield 60, 3) := by decide +kernel
theorem prd_G_openStatement_43 : decode prb_G_openStatement 43 = .ok (.iastore, 1) := by decide +kernel
theorem prd_G_openStatement_44 : decode prb_G_openStatement 44 = .ok (.aload_n 0, 1) := by decide +kernel
theorem prd_G_openStatement_45 : decode prb_G_openStatement 45 = .ok (.getfield 38, 3) := by decide +kernel
theorem prd_G_openStatement_48 : decode prb_G_openStatement 48 = .ok (.iload_n 3, 1) := by decide +kernel
theorem prd_G_openStatement_49 : decode prb_G_openStatement 49 = .ok (.iconst 0, 1) := by decide +kernel
theorem prd_G_openStatement_50 : decode prb_G_openStatement 50 = .ok (.iastore, 1) := by decide +kernel
theorem prd_G_openStatement_51 : decode prb_G_openStatement 51 = .ok (.aload_n 0, 1) := by decide +kernel
theorem prd_G_openStatement_52 : decode prb_G_openStatement 52 = .ok (.dup, 1) := by decide +kernel
theorem prd_G_openStatement_53 : decode prb_G_openStatement 53 = .ok (.getfield 57, 3) := by decide +kernel
theorem prd_G_openStatement_56 : decode prb_G_openStatement 56 = .ok (.iconst 1, 1) := by decide +kernel
theorem prd_G_openStatement_57 : decode prb_G_openStatement 57 = .ok (.iadd, 1) := by decide +kernel
theorem prd_G_openStatement_58 : decode prb_G_openStatement 58 = .ok (.putfield 57, 3) := by decide +kernel
theorem prd_G_openStatement_61 : decode prb_G_openStatement 61 = .ok (.iload_n 3, 1) := by decide +kernel
theorem prd_G_openStatement_62 : decode prb_G_openStatement 62 = .ok (.ireturn, 1) := by decide +kernel
theorem prd_G_openStatement_12 : decode prb_G_openStatement 12 = .ok (.iconst (-1), 1) := by decide +kernel
theorem prd_G_openStatement_13 : decode prb_G_openStatement 13 = .ok (.ireturn, 1) := by decide +kernel
theorem prd_G_addOperation_0 : decode prb_G_addOperation 0 = .ok (.aload_n 0, 1) := by decide +kernel
theorem prd_G_addOperation_1 : decode prb_G_addOperation 1 = .ok (.getfield 60, 3) := by decide +kernel
theorem prd_G_addOperation_4 : decode prb_G_addOperation 4 = .ok (.aload_n 0, 1) := by decide +kernel
theorem prd_G_addOperation_5 : decode prb_G_addOperation 5 = .ok (.getfield 44, 3) := by decide +kernel
theorem prd_G_addOperation_8 : decode prb_G_addOperation 8 = .ok (.arraylength, 1) := by decide +kernel
theorem prd_G_addOperation_9 : decode prb_G_addOperation 9 = .ok (.if_icmp .ge 34, 3) := by decide +kernel
theorem prd_G_addOperation_43 : decode prb_G_addOperation 43 = .ok (.return_, 1) := by decide +kernel
theorem prd_G_addOperation_12 : decode prb_G_addOperation 12 = .ok (.aload_n 0, 1) := by decide +kernel
theorem prd_G_addOperation_13 : decode prb_G_addOperation 13 = .ok (.getfield 44, 3) := by decide +kernel
theorem prd_G_addOperation_16 : decode prb_G_addOperation 16 = .ok (.aload_n 0, 1) := by decide +kernel
theorem prd_G_addOperation_17 : decode prb_G_addOperation 17 = .ok (.getfield 60, 3) := by decide +kernel
theorem prd_G_addOperation_20 : decode prb_G_addOperation 20 = .ok (.iload_n 1, 1) := by decide +kernel
theorem prd_G_addOperation_21 : decode prb_G_addOperation 21 = .ok (.i2b, 1) := by decide +kernel
theorem prd_G_addOperation_22 : decode prb_G_addOperation 22 = .ok (.bastore, 1) := by decide +kernel
theorem prd_G_addOperation_23 : decode prb_G_addOperation 23 = .ok (.aload_n 0, 1) := by decide +kernel
theorem prd_G_addOperation_24 : decode prb_G_addOperation 24 = .ok (.getfield 47, 3) := by decide +kernel
theorem prd_G_addOperation_27 : decode prb_G_addOperation 27 = .ok (.aload_n 0, 1) := by decide +kernel
theorem prd_G_addOperation_28 : decode prb_G_addOperation 28 = .ok (.getfield 60, 3) := by decide +kernel
theorem prd_G_addOperation_31 : decode prb_G_addOperation 31 = .ok (.iload_n 2, 1) := by decide +kernel
theorem prd_G_addOperation_32 : decode prb_G_addOperation 32 = .ok (.iastore, 1) := by decide +kernel
theorem prd_G_addOperation_33 : decode prb_G_addOperation 33 = .ok (.aload_n 0, 1) := by decide +kernel
theorem prd_G_addOperation_34 : decode prb_G_addOperation 34 = .ok (.dup, 1) := by decide +kernel
theorem prd_G_addOperation_35 : decode prb_G_addOperation 35 = .ok (.getfield 60, 3) := by decide +kernel
theorem prd_G_addOperation_38 : decode prb_G_addOperation 38 = .ok (.iconst 1, 1) := by decide +kernel
theorem prd_G_addOperation_39 : decode prb_G_addOperation 39 = .ok (.iadd, 1) := by decide +kernel
theorem prd_G_addOperation_40 : decode prb_G_addOperation 40 = .ok (.putfield 60, 3) := by decide +kernel
theorem prd_G_isStatement_0 : decode prb_G_isStatement 0 = .ok (.iload_n 1, 1) := by decide +kernel
theorem prd_G_isStatement_1 : decode prb_G_isStatement 1 = .ok (.ifCond .lt 15, 3) := by decide +kernel
theorem prd_G_isStatement_16 : decode prb_G_isStatement 16 = .ok (.iconst 0, 1) := by decide +kernel
theorem prd_G_isStatement_17 : decode prb_G_isStatement 17 = .ok (.ireturn, 1) := by decide +kernel
theorem prd_G_isStatement_4 : decode prb_G_isStatement 4 = .ok (.iload_n 1, 1) := by decide +kernel
theorem prd_G_isStatement_5 : decode prb_G_isStatement 5 = .ok (.aload_n 0, 1) := by decide +kernel
theorem prd_G_isStatement_6 : decode prb_G_isStatement 6 = .ok (.getfield 57, 3) := by decide +kernel
theorem prd_G_isStatement_9 : decode prb_G_isStatement 9 = .ok (.if_icmp .ge 7, 3) := by decide +kernel
theorem prd_G_isStatement_12 : decode prb_G_isStatement 12 = .ok (.iconst 1, 1) := by decide +kernel
theorem prd_G_isStatement_13 : decode prb_G_isStatement 13 = .ok (.goto 4, 3) := by decide +kernel
theorem prd_G_setDetail_0 : decode prb_G_setDetail 0 = .ok (.aload_n 0, 1) := by decide +kernel
theorem prd_G_setDetail_1 : decode prb_G_setDetail 1 = .ok (.iload_n 1, 1) := by decide +kernel
theorem prd_G_setDetail_2 : decode prb_G_setDetail 2 = .ok (.invokevirtual 71, 3) := by decide +kernel
theorem prd_G_setDetail_5 : decode prb_G_setDetail 5 = .ok (.ifCond .eq 10, 3) := by decide +kernel
theorem prd_G_setDetail_15 : decode prb_G_setDetail 15 = .ok (.return_, 1) := by decide +kernel
theorem prd_G_setDetail_8 : decode prb_G_setDetail 8 = .ok (.aload_n 0, 1) := by decide +kernel
theorem prd_G_setDetail_9 : decode prb_G_setDetail 9 = .ok (.getfield 38, 3) := by decide +kernel
theorem prd_G_setDetail_12 : decode prb_G_setDetail 12 = .ok (.iload_n 1, 1) := by decide +kernel
theorem prd_G_setDetail_13 : decode prb_G_setDetail 13 = .ok (.iload_n 2, 1) := by decide +kernel
theorem prd_G_setDetail_14 : decode prb_G_setDetail 14 = .ok (.iastore, 1) := by decide +kernel
theorem prd_G_operationCount_0 : decode prb_G_operationCount 0 = .ok (.aload_n 0, 1) := by decide +kernel
theorem prd_G_operationCount_1 : decode prb_G_operationCount 1 = .ok (.getfield 60, 3) := by decide +kernel
theorem prd_G_operationCount_4 : decode prb_G_operationCount 4 = .ok (.ireturn, 1) := by decide +kernel
theorem prd_G_isOperation_0 : decode prb_G_isOperation 0 = .ok (.iload_n 1, 1) := by decide +kernel
theorem prd_G_isOperation_1 : decode prb_G_isOperation 1 = .ok (.ifCond .lt 15, 3) := by decide +kernel
theorem prd_G_isOperation_16 : decode prb_G_isOperation 16 = .ok (.iconst 0, 1) := by decide +kernel
theorem prd_G_isOperation_17 : decode prb_G_isOperation 17 = .ok (.ireturn, 1) := by decide +kernel
theorem prd_G_isOperation_4 : decode prb_G_isOperation 4 = .ok (.iload_n 1, 1) := by decide +kernel
theorem prd_G_isOperation_5 : decode prb_G_isOperation 5 = .ok (.aload_n 0, 1) := by decide +kernel
theorem prd_G_isOperation_6 : decode prb_G_isOperation 6 = .ok (.getfield 60, 3) := by decide +kernel
theorem prd_G_isOperation_9 : decode prb_G_isOperation 9 = .ok (.if_icmp .ge 7, 3) := by decide +kernel
theorem prd_G_isOperation_12 : decode prb_G_isOperation 12 = .ok (.iconst 1, 1) := by decide +kernel
theorem prd_G_isOperation_13 : decode prb_G_isOperation 13 = .ok (.goto 4, 3) := by decide +kernel
theorem prd_G_leapToHere_0 : decode prb_G_leapToHere 0 = .ok (.aload_n 0, 1) := by decide +kernel
theorem prd_G_leapToHere_1 : decode prb_G_leapToHere 1 = .ok (.iload_n 1, 1) := by decide +kernel
theorem prd_G_leapToHere_2 : decode prb_G_leapToHere 2 = .ok (.invokevirtual 78, 3) := by decide +kernel
theorem prd_G_leapToHere_5 : decode prb_G_leapToHere 5 = .ok (.ifCond .eq 13, 3) := by decide +kernel
theorem prd_G_leapToHere_18 : decode prb_G_leapToHere 18 = .ok (.return_, 1) := by decide +kernel
theorem prd_G_leapToHere_8 : decode prb_G_leapToHere 8 = .ok (.aload_n 0, 1) := by decide +kernel
theorem prd_G_leapToHere_9 : decode prb_G_leapToHere 9 = .ok (.getfield 47, 3) := by decide +kernel
theorem prd_G_leapToHere_12 : decode prb_G_leapToHere 12 = .ok (.iload_n 1, 1) := by decide +kernel
theorem prd_G_leapToHere_13 : decode prb_G_leapToHere 13 = .ok (.aload_n 0, 1) := by decide +kernel
theorem prd_G_leapToHere_14 : decode prb_G_leapToHere 14 = .ok (.getfield 60, 3) := by decide +kernel
theorem prd_G_leapToHere_17 : decode prb_G_leapToHere 17 = .ok (.iastore, 1) := by decide +kernel
theorem prd_G_closeFirstBlock_0 : decode prb_G_closeFirstBlock 0 = .ok (.aload_n 0, 1) := by decide +kernel
theorem prd_G_closeFirstBlock_1 : decode prb_G_closeFirstBlock 1 = .ok (.iload_n 1, 1) := by decide +kernel
theorem prd_G_closeFirstBlock_2 : decode prb_G_closeFirstBlock 2 = .ok (.aload_n 0, 1) := by decide +kernel
theorem prd_G_closeFirstBlock_3 : decode prb_G_closeFirstBlock 3 = .ok (.getfield 57, 3) := by decide +kernel
theorem prd_G_closeFirstBlock_6 : decode prb_G_closeFirstBlock 6 = .ok (.invokevirtual 74, 3) := by decide +kernel
theorem prd_G_closeFirstBlock_9 : decode prb_G_closeFirstBlock 9 = .ok (.return_, 1) := by decide +kernel
theorem prd_G_closeStatement_0 : decode prb_G_closeStatement 0 = .ok (.aload_n 0, 1) := by decide +kernel
theorem prd_G_closeStatement_1 : decode prb_G_closeStatement 1 = .ok (.iload_n 1, 1) := by decide +kernel
theorem prd_G_closeStatement_2 : decode prb_G_closeStatement 2 = .ok (.invokevirtual 71, 3) := by decide +kernel
theorem prd_G_closeStatement_5 : decode prb_G_closeStatement 5 = .ok (.ifCond .eq 13, 3) := by decide +kernel
theorem prd_G_closeStatement_18 : decode prb_G_closeStatement 18 = .ok (.return_, 1) := by decide +kernel
theorem prd_G_closeStatement_8 : decode prb_G_closeStatement 8 = .ok (.aload_n 0, 1) := by decide +kernel
theorem prd_G_closeStatement_9 : decode prb_G_closeStatement 9 = .ok (.getfield 41, 3) := by decide +kernel
theorem prd_G_closeStatement_12 : decode prb_G_closeStatement 12 = .ok (.iload_n 1, 1) := by decide +kernel
theorem prd_G_closeStatement_13 : decode prb_G_closeStatement 13 = .ok (.aload_n 0, 1) := by decide +kernel
theorem prd_G_closeStatement_14 : decode prb_G_closeStatement 14 = .ok (.getfield 57, 3) := by decide +kernel
theorem prd_G_closeStatement_17 : decode prb_G_closeStatement 17 = .ok (.iastore, 1) := by decide +kernel
theorem prd_G_isFunction_0 : decode prb_G_isFunction 0 = .ok (.iload_n 1, 1) := by decide +kernel
theorem prd_G_isFunction_1 : decode prb_G_isFunction 1 = .ok (.ifCond .lt 15, 3) := by decide +kernel
theorem prd_G_isFunction_16 : decode prb_G_isFunction 16 = .ok (.iconst 0, 1) := by decide +kernel
theorem prd_G_isFunction_17 : decode prb_G_isFunction 17 = .ok (.ireturn, 1) := by decide +kernel
theorem prd_G_isFunction_4 : decode prb_G_isFunction 4 = .ok (.iload_n 1, 1) := by decide +kernel
theorem prd_G_isFunction_5 : decode prb_G_isFunction 5 = .ok (.aload_n 0, 1) := by decide +kernel
theorem prd_G_isFunction_6 : decode prb_G_isFunction 6 = .ok (.getfield 53, 3) := by decide +kernel
theorem prd_G_isFunction_9 : decode prb_G_isFunction 9 = .ok (.if_icmp .ge 7, 3) := by decide +kernel
theorem prd_G_isFunction_12 : decode prb_G_isFunction 12 = .ok (.iconst 1, 1) := by decide +kernel
theorem prd_G_isFunction_13 : decode prb_G_isFunction 13 = .ok (.goto 4, 3) := by decide +kernel
theorem prd_G_closeFunction_0 : decode prb_G_closeFunction 0 = .ok (.aload_n 0, 1) := by decide +kernel
theorem prd_G_closeFunction_1 : decode prb_G_closeFunction 1 = .ok (.getfield 53, 3) := by decide +kernel
theorem prd_G_closeFunction_4 : decode prb_G_closeFunction 4 = .ok (.iconst 1, 1) := by decide +kernel
theorem prd_G_closeFunction_5 : decode prb_G_closeFunction 5 = .ok (.isub, 1) := by decide +kernel
theorem prd_G_closeFunction_6 : decode prb_G_closeFunction 6 = .ok (.istore_n 2, 1) := by decide +kernel
theorem prd_G_closeFunction_7 : decode prb_G_closeFunction 7 = .ok (.aload_n 0, 1) := by decide +kernel
theorem prd_G_closeFunction_8 : decode prb_G_closeFunction 8 = .ok (.iload_n 2, 1) := by decide +kernel
theorem prd_G_closeFunction_9 : decode prb_G_closeFunction 9 = .ok (.invokevirtual 63, 3) := by decide +kernel
theorem prd_G_closeFunction_12 : decode prb_G_closeFunction 12 = .ok (.ifCond .eq 20, 3) := by decide +kernel
theorem prd_G_closeFunction_32 : decode prb_G_closeFunction 32 = .ok (.return_, 1) := by decide +kernel
theorem prd_G_closeFunction_15 : decode prb_G_closeFunction 15 = .ok (.aload_n 0, 1) := by decide +kernel
theorem prd_G_closeFunction_16 : decode prb_G_closeFunction 16 = .ok (.getfield 21, 3) := by decide +kernel
theorem prd_G_closeFunction_19 : decode prb_G_closeFunction 19 = .ok (.iload_n 2, 1) := by decide +kernel
theorem prd_G_closeFunction_20 : decode prb_G_closeFunction 20 = .ok (.aload_n 0, 1) := by decide +kernel
theorem prd_G_closeFunction_21 : decode prb_G_closeFunction 21 = .ok (.getfield 57, 3) := by decide +kernel
theorem prd_G_closeFunction_24 : decode prb_G_closeFunction 24 = .ok (.iastore, 1) := by decide +kernel
theorem prd_G_closeFunction_25 : decode prb_G_closeFunction 25 = .ok (.aload_n 0, 1) := by decide +kernel
theorem prd_G_closeFunction_26 : decode prb_G_closeFunction 26 = .ok (.getfield 24, 3) := by decide +kernel
theorem prd_G_closeFunction_29 : decode prb_G_closeFunction 29 = .ok (.iload_n 2, 1) := by decide +kernel
theorem prd_G_closeFunction_30 : decode prb_G_closeFunction 30 = .ok (.iload_n 1, 1) := by decide +kernel
theorem prd_G_closeFunction_31 : decode prb_G_closeFunction 31 = .ok (.bastore, 1) := by decide +kernel
theorem prd_G_functions_0 : decode prb_G_functions 0 = .ok (.aload_n 0, 1) := by decide +kernel
theorem prd_G_functions_1 : decode prb_G_functions 1 = .ok (.getfield 53, 3) := by decide +kernel
theorem prd_G_functions_4 : decode prb_G_functions 4 = .ok (.ireturn, 1) := by decide +kernel
theorem prd_G_parametersOf_0 : decode prb_G_parametersOf 0 = .ok (.aload_n 0, 1) := by decide +kernel
theorem prd_G_parametersOf_1 : decode prb_G_parametersOf 1 = .ok (.iload_n 1, 1) := by decide +kernel
theorem prd_G_parametersOf_2 : decode prb_G_parametersOf 2 = .ok (.invokevirtual 63, 3) := by decide +kernel
theorem prd_G_parametersOf_5 : decode prb_G_parametersOf 5 = .ok (.ifCond .eq 12, 3) := by decide +kernel
theorem prd_G_parametersOf_17 : decode prb_G_parametersOf 17 = .ok (.iconst 0, 1) := by decide +kernel
theorem prd_G_parametersOf_18 : decode prb_G_parametersOf 18 = .ok (.ireturn, 1) := by decide +kernel
theorem prd_G_parametersOf_8 : decode prb_G_parametersOf 8 = .ok (.aload_n 0, 1) := by decide +kernel
theorem prd_G_parametersOf_9 : decode prb_G_parametersOf 9 = .ok (.getfield 15, 3) := by decide +kernel
theorem prd_G_parametersOf_12 : decode prb_G_parametersOf 12 = .ok (.iload_n 1, 1) := by decide +kernel
theorem prd_G_parametersOf_13 : decode prb_G_parametersOf 13 = .ok (.iaload, 1) := by decide +kernel
theorem prd_G_parametersOf_14 : decode prb_G_parametersOf 14 = .ok (.goto 4, 3) := by decide +kernel
theorem prd_G_nameOf_0 : decode prb_G_nameOf 0 = .ok (.aload_n 0, 1) := by decide +kernel
theorem prd_G_nameOf_1 : decode prb_G_nameOf 1 = .ok (.iload_n 1, 1) := by decide +kernel
theorem prd_G_nameOf_2 : decode prb_G_nameOf 2 = .ok (.invokevirtual 63, 3) := by decide +kernel
theorem prd_G_nameOf_5 : decode prb_G_nameOf 5 = .ok (.ifCond .eq 12, 3) := by decide +kernel
theorem prd_G_nameOf_17 : decode prb_G_nameOf 17 = .ok (.iconst (-1), 1) := by decide +kernel
theorem prd_G_nameOf_18 : decode prb_G_nameOf 18 = .ok (.ireturn, 1) := by decide +kernel
theorem prd_G_nameOf_8 : decode prb_G_nameOf 8 = .ok (.aload_n 0, 1) := by decide +kernel
theorem prd_G_nameOf_9 : decode prb_G_nameOf 9 = .ok (.getfield 9, 3) := by decide +kernel
theorem prd_G_nameOf_12 : decode prb_G_nameOf 12 = .ok (.iload_n 1, 1) := by decide +kernel
theorem prd_G_nameOf_13 : decode prb_G_nameOf 13 = .ok (.iaload, 1) := by decide +kernel
theorem prd_G_nameOf_14 : decode prb_G_nameOf 14 = .ok (.goto 4, 3) := by decide +kernel
theorem prd_G_beginOf_0 : decode prb_G_beginOf 0 = .ok (.aload_n 0, 1) := by decide +kernel
theorem prd_G_beginOf_1 : decode prb_G_beginOf 1 = .ok (.iload_n 1, 1) := by decide +kernel
theorem prd_G_beginOf_2 : decode prb_G_beginOf 2 = .ok (.invokevirtual 63, 3) := by decide +kernel
theorem prd_G_beginOf_5 : decode prb_G_beginOf 5 = .ok (.ifCond .eq 12, 3) := by decide +kernel
theorem prd_G_beginOf_17 : decode prb_G_beginOf 17 = .ok (.iconst 0, 1) := by decide +kernel
theorem prd_G_beginOf_18 : decode prb_G_beginOf 18 = .ok (.ireturn, 1) := by decide +kernel
theorem prd_G_beginOf_8 : decode prb_G_beginOf 8 = .ok (.aload_n 0, 1) := by decide +kernel
theorem prd_G_beginOf_9 : decode prb_G_beginOf 9 = .ok (.getfield 18, 3) := by decide +kernel
theorem prd_G_beginOf_12 : decode prb_G_beginOf 12 = .ok (.iload_n 1, 1) := by decide +kernel
theorem prd_G_beginOf_13 : decode prb_G_beginOf 13 = .ok (.iaload, 1) := by decide +kernel
theorem prd_G_beginOf_14 : decode prb_G_beginOf 14 = .ok (.goto 4, 3) := by decide +kernel
theorem prd_G_endOf_0 : decode prb_G_endOf 0 = .ok (.aload_n 0, 1) := by decide +kernel
theorem prd_G_endOf_1 : decode prb_G_endOf 1 = .ok (.iload_n 1, 1) := by decide +kernel
theorem prd_G_endOf_2 : decode prb_G_endOf 2 = .ok (.invokevirtual 63, 3) := by decide +kernel
theorem prd_G_endOf_5 : decode prb_G_endOf 5 = .ok (.ifCond .eq 12, 3) := by decide +kernel
theorem prd_G_endOf_17 : decode prb_G_endOf 17 = .ok (.iconst 0, 1) := by decide +kernel
theorem prd_G_endOf_18 : decode prb_G_endOf 18 = .ok (.ireturn, 1) := by decide +kernel
theorem prd_G_endOf_8 : decode prb_G_endOf 8 = .ok (.aload_n 0, 1) := by decide +kernel
theorem prd_G_endOf_9 : decode prb_G_endOf 9 = .ok (.getfield 21, 3) := by decide +kernel
theorem prd_G_endOf_12 : decode prb_G_endOf 12 = .ok (.iload_n 1, 1) := by decide +kernel
theorem prd_G_endOf_13 : decode prb_G_endOf 13 = .ok (.iaload, 1) := by decide +kernel
theorem prd_G_endOf_14 : decode prb_G_endOf 14 = .ok (.goto 4, 3) := by decide +kernel
theorem prd_G_behind_0 : decode prb_G_behind 0 = .ok (.aload_n 0, 1) := by decide +kernel
theorem prd_G_behind_1 : decode prb_G_behind 1 = .ok (.iload_n 1, 1) := by decide +kernel
theorem prd_G_behind_2 : decode prb_G_behind 2 = .ok (.invokevirtual 71, 3) := by decide +kernel
theorem prd_G_behind_5 : decode prb_G_behind 5 = .ok (.ifCond .eq 12, 3) := by decide +kernel
theorem prd_G_behind_17 : decode prb_G_behind 17 = .ok (.aload_n 0, 1) := by decide +kernel
theorem prd_G_behind_18 : decode prb_G_behind 18 = .ok (.getfield 57, 3) := by decide +kernel
theorem prd_G_behind_21 : decode prb_G_behind 21 = .ok (.ireturn, 1) := by decide +kernel
theorem prd_G_behind_8 : decode prb_G_behind 8 = .ok (.aload_n 0, 1) := by decide +kernel
theorem prd_G_behind_9 : decode prb_G_behind 9 = .ok (.getfield 41, 3) := by decide +kernel
theorem prd_G_behind_12 : decode prb_G_behind 12 = .ok (.iload_n 1, 1) := by decide +kernel
theorem prd_G_behind_13 : decode prb_G_behind 13 = .ok (.iaload, 1) := by decide +kernel
theorem prd_G_behind_14 : decode prb_G_behind 14 = .ok (.goto 7, 3) := by decide +kernel
theorem prd_G_kindOf_0 : decode prb_G_kindOf 0 = .ok (.aload_n 0, 1) := by decide +kernel
theorem prd_G_kindOf_1 : decode prb_G_kindOf 1 = .ok (.iload_n 1, 1) := by decide +kernel
theorem prd_G_kindOf_2 : decode prb_G_kindOf 2 = .ok (.invokevirtual 71, 3) := by decide +kernel
theorem prd_G_kindOf_5 : decode prb_G_kindOf 5 = .ok (.ifCond .eq 12, 3) := by decide +kernel
theorem prd_G_kindOf_17 : decode prb_G_kindOf 17 = .ok (.iconst 0, 1) := by decide +kernel
theorem prd_G_kindOf_18 : decode prb_G_kindOf 18 = .ok (.ireturn, 1) := by decide +kernel
theorem prd_G_kindOf_8 : decode prb_G_kindOf 8 = .ok (.aload_n 0, 1) := by decide +kernel
theorem prd_G_kindOf_9 : decode prb_G_kindOf 9 = .ok (.getfield 28, 3) := by decide +kernel
theorem prd_G_kindOf_12 : decode prb_G_kindOf 12 = .ok (.iload_n 1, 1) := by decide +kernel
theorem prd_G_kindOf_13 : decode prb_G_kindOf 13 = .ok (.baload, 1) := by decide +kernel
theorem prd_G_kindOf_14 : decode prb_G_kindOf 14 = .ok (.goto 4, 3) := by decide +kernel
theorem prd_G_firstTokenOf_0 : decode prb_G_firstTokenOf 0 = .ok (.aload_n 0, 1) := by decide +kernel
theorem prd_G_firstTokenOf_1 : decode prb_G_firstTokenOf 1 = .ok (.iload_n 1, 1) := by decide +kernel
theorem prd_G_firstTokenOf_2 : decode prb_G_firstTokenOf 2 = .ok (.invokevirtual 71, 3) := by decide +kernel
theorem prd_G_firstTokenOf_5 : decode prb_G_firstTokenOf 5 = .ok (.ifCond .eq 12, 3) := by decide +kernel
theorem prd_G_firstTokenOf_17 : decode prb_G_firstTokenOf 17 = .ok (.iconst (-1), 1) := by decide +kernel
theorem prd_G_firstTokenOf_18 : decode prb_G_firstTokenOf 18 = .ok (.ireturn, 1) := by decide +kernel
theorem prd_G_firstTokenOf_8 : decode prb_G_firstTokenOf 8 = .ok (.aload_n 0, 1) := by decide +kernel
theorem prd_G_firstTokenOf_9 : decode prb_G_firstTokenOf 9 = .ok (.getfield 32, 3) := by decide +kernel
theorem prd_G_firstTokenOf_12 : decode prb_G_firstTokenOf 12 = .ok (.iload_n 1, 1) := by decide +kernel
theorem prd_G_firstTokenOf_13 : decode prb_G_firstTokenOf 13 = .ok (.iaload, 1) := by decide +kernel
theorem prd_G_firstTokenOf_14 : decode prb_G_firstTokenOf 14 = .ok (.goto 4, 3) := by decide +kernel
theorem prd_G_detailOf_0 : decode prb_G_detailOf 0 = .ok (.aload_n 0, 1) := by decide +kernel
theorem prd_G_detailOf_1 : decode prb_G_detailOf 1 = .ok (.iload_n 1, 1) := by decide +kernel
theorem prd_G_detailOf_2 : decode prb_G_detailOf 2 = .ok (.invokevirtual 71, 3) := by decide +kernel
theorem prd_G_detailOf_5 : decode prb_G_detailOf 5 = .ok (.ifCond .eq 12, 3) := by decide +kernel
theorem prd_G_detailOf_17 : decode prb_G_detailOf 17 = .ok (.iconst 0, 1) := by decide +kernel
theorem prd_G_detailOf_18 : decode prb_G_detailOf 18 = .ok (.ireturn, 1) := by decide +kernel
theorem prd_G_detailOf_8 : decode prb_G_detailOf 8 = .ok (.aload_n 0, 1) := by decide +kernel
theorem prd_G_detailOf_9 : decode prb_G_detailOf 9 = .ok (.getfield 38, 3) := by decide +kernel
theorem prd_G_detailOf_12 : decode prb_G_detailOf 12 = .ok (.iload_n 1, 1) := by decide +kernel
theorem prd_G_detailOf_13 : decode prb_G_detailOf 13 = .ok (.iaload, 1) := by decide +kernel
theorem prd_G_detailOf_14 : decode prb_G_detailOf 14 = .ok (.goto 4, 3) := by decide +kernel
theorem prd_G_returns_0 : decode prb_G_returns 0 = .ok (.aload_n 0, 1) := by decide +kernel
theorem prd_G_returns_1 : decode prb_G_returns 1 = .ok (.iload_n 1, 1) := by decide +kernel
theorem prd_G_returns_2 : decode prb_G_returns 2 = .ok (.invokevirtual 63, 3) := by decide +kernel
theorem prd_G_returns_5 : decode prb_G_returns 5 = .ok (.ifCond .eq 16, 3) := by decide +kernel
theorem prd_G_returns_21 : decode prb_G_returns 21 = .ok (.iconst 0, 1) := by decide +kernel
theorem prd_G_returns_22 : decode prb_G_returns 22 = .ok (.ireturn, 1) := by decide +kernel
theorem prd_G_returns_8 : decode prb_G_returns 8 = .ok (.aload_n 0, 1) := by decide +kernel
theorem prd_G_returns_9 : decode prb_G_returns 9 = .ok (.getfield 24, 3) := by decide +kernel
theorem prd_G_returns_12 : decode prb_G_returns 12 = .ok (.iload_n 1, 1) := by decide +kernel
theorem prd_G_returns_13 : decode prb_G_returns 13 = .ok (.baload, 1) := by decide +kernel
theorem prd_G_returns_14 : decode prb_G_returns 14 = .ok (.ifCond .eq 7, 3) := by decide +kernel
theorem prd_G_returns_17 : decode prb_G_returns 17 = .ok (.iconst 1, 1) := by decide +kernel
theorem prd_G_returns_18 : decode prb_G_returns 18 = .ok (.goto 4, 3) := by decide +kernel
theorem prd_G_setSlot_0 : decode prb_G_setSlot 0 = .ok (.iload_n 1, 1) := by decide +kernel
theorem prd_G_setSlot_1 : decode prb_G_setSlot 1 = .ok (.ifCond .lt 19, 3) := by decide +kernel
theorem prd_G_setSlot_20 : decode prb_G_setSlot 20 = .ok (.return_, 1) := by decide +kernel
theorem prd_G_setSlot_4 : decode prb_G_setSlot 4 = .ok (.iload_n 1, 1) := by decide +kernel
theorem prd_G_setSlot_5 : decode prb_G_setSlot 5 = .ok (.aload_n 0, 1) := by decide +kernel
theorem prd_G_setSlot_6 : decode prb_G_setSlot 6 = .ok (.getfield 50, 3) := by decide +kernel
theorem prd_G_setSlot_9 : decode prb_G_setSlot 9 = .ok (.arraylength, 1) := by decide +kernel
theorem prd_G_setSlot_10 : decode prb_G_setSlot 10 = .ok (.if_icmp .ge 10, 3) := by decide +kernel
theorem prd_G_setSlot_13 : decode prb_G_setSlot 13 = .ok (.aload_n 0, 1) := by decide +kernel
theorem prd_G_setSlot_14 : decode prb_G_setSlot 14 = .ok (.getfield 50, 3) := by decide +kernel
theorem prd_G_setSlot_17 : decode prb_G_setSlot 17 = .ok (.iload_n 1, 1) := by decide +kernel
theorem prd_G_setSlot_18 : decode prb_G_setSlot 18 = .ok (.iload_n 2, 1) := by decide +kernel
theorem prd_G_setSlot_19 : decode prb_G_setSlot 19 = .ok (.iastore, 1) := by decide +kernel
theorem prd_G_parameterToken_0 : decode prb_G_parameterToken 0 = .ok (.aload_n 0, 1) := by decide +kernel
theorem prd_G_parameterToken_1 : decode prb_G_parameterToken 1 = .ok (.iload_n 1, 1) := by decide +kernel
theorem prd_G_parameterToken_2 : decode prb_G_parameterToken 2 = .ok (.invokevirtual 67, 3) := by decide +kernel
theorem prd_G_parameterToken_5 : decode prb_G_parameterToken 5 = .ok (.iconst 2, 1) := by decide +kernel
theorem prd_G_parameterToken_6 : decode prb_G_parameterToken 6 = .ok (.iadd, 1) := by decide +kernel
theorem prd_G_parameterToken_7 : decode prb_G_parameterToken 7 = .ok (.iconst 2, 1) := by decide +kernel
theorem prd_G_parameterToken_8 : decode prb_G_parameterToken 8 = .ok (.iload_n 2, 1) := by decide +kernel
theorem prd_G_parameterToken_9 : decode prb_G_parameterToken 9 = .ok (.imul, 1) := by decide +kernel
theorem prd_G_parameterToken_10 : decode prb_G_parameterToken 10 = .ok (.iadd, 1) := by decide +kernel
theorem prd_G_parameterToken_11 : decode prb_G_parameterToken 11 = .ok (.ireturn, 1) := by decide +kernel
theorem prd_G_slotOf_0 : decode prb_G_slotOf 0 = .ok (.iload_n 1, 1) := by decide +kernel
theorem prd_G_slotOf_1 : decode prb_G_slotOf 1 = .ok (.ifCond .lt 21, 3) := by decide +kernel
theorem prd_G_slotOf_22 : decode prb_G_slotOf 22 = .ok (.iconst (-1), 1) := by decide +kernel
theorem prd_G_slotOf_23 : decode prb_G_slotOf 23 = .ok (.ireturn, 1) := by decide +kernel
theorem prd_G_slotOf_4 : decode prb_G_slotOf 4 = .ok (.iload_n 1, 1) := by decide +kernel
theorem prd_G_slotOf_5 : decode prb_G_slotOf 5 = .ok (.aload_n 0, 1) := by decide +kernel
theorem prd_G_slotOf_6 : decode prb_G_slotOf 6 = .ok (.getfield 50, 3) := by decide +kernel
theorem prd_G_slotOf_9 : decode prb_G_slotOf 9 = .ok (.arraylength, 1) := by decide +kernel
theorem prd_G_slotOf_10 : decode prb_G_slotOf 10 = .ok (.if_icmp .ge 12, 3) := by decide +kernel
theorem prd_G_slotOf_13 : decode prb_G_slotOf 13 = .ok (.aload_n 0, 1) := by decide +kernel
theorem prd_G_slotOf_14 : decode prb_G_slotOf 14 = .ok (.getfield 50, 3) := by decide +kernel
theorem prd_G_slotOf_17 : decode prb_G_slotOf 17 = .ok (.iload_n 1, 1) := by decide +kernel
theorem prd_G_slotOf_18 : decode prb_G_slotOf 18 = .ok (.iaload, 1) := by decide +kernel
theorem prd_G_slotOf_19 : decode prb_G_slotOf 19 = .ok (.goto 4, 3) := by decide +kernel
theorem prd_G_firstOperationOf_0 : decode prb_G_firstOperationOf 0 = .ok (.aload_n 0, 1) := by decide +kernel
theorem prd_G_firstOperationOf_1 : decode prb_G_firstOperationOf 1 = .ok (.iload_n 1, 1) := by decide +kernel
theorem prd_G_firstOperationOf_2 : decode prb_G_firstOperationOf 2 = .ok (.invokevirtual 71, 3) := by decide +kernel
theorem prd_G_firstOperationOf_5 : decode prb_G_firstOperationOf 5 = .ok (.ifCond .eq 12, 3) := by decide +kernel
theorem prd_G_firstOperationOf_17 : decode prb_G_firstOperationOf 17 = .ok (.aload_n 0, 1) := by decide +kernel
theorem prd_G_firstOperationOf_18 : decode prb_G_firstOperationOf 18 = .ok (.getfield 60, 3) := by decide +kernel
theorem prd_G_firstOperationOf_21 : decode prb_G_firstOperationOf 21 = .ok (.ireturn, 1) := by decide +kernel
theorem prd_G_firstOperationOf_8 : decode prb_G_firstOperationOf 8 = .ok (.aload_n 0, 1) := by decide +kernel
theorem prd_G_firstOperationOf_9 : decode prb_G_firstOperationOf 9 = .ok (.getfield 35, 3) := by decide +kernel
theorem prd_G_firstOperationOf_12 : decode prb_G_firstOperationOf 12 = .ok (.iload_n 1, 1) := by decide +kernel
theorem prd_G_firstOperationOf_13 : decode prb_G_firstOperationOf 13 = .ok (.iaload, 1) := by decide +kernel
theorem prd_G_firstOperationOf_14 : decode prb_G_firstOperationOf 14 = .ok (.goto 7, 3) := by decide +kernel
theorem prd_G_operationAt_0 : decode prb_G_operationAt 0 = .ok (.aload_n 0, 1) := by decide +kernel
theorem prd_G_operationAt_1 : decode prb_G_operationAt 1 = .ok (.iload_n 1, 1) := by decide +kernel
theorem prd_G_operationAt_2 : decode prb_G_operationAt 2 = .ok (.invokevirtual 78, 3) := by decide +kernel
theorem prd_G_operationAt_5 : decode prb_G_operationAt 5 = .ok (.ifCond .eq 12, 3) := by decide +kernel
theorem prd_G_operationAt_17 : decode prb_G_operationAt 17 = .ok (.iconst 0, 1) := by decide +kernel
theorem prd_G_operationAt_18 : decode prb_G_operationAt 18 = .ok (.ireturn, 1) := by decide +kernel
theorem prd_G_operationAt_8 : decode prb_G_operationAt 8 = .ok (.aload_n 0, 1) := by decide +kernel
theorem prd_G_operationAt_9 : decode prb_G_operationAt 9 = .ok (.getfield 44, 3) := by decide +kernel
theorem prd_G_operationAt_12 : decode prb_G_operationAt 12 = .ok (.iload_n 1, 1) := by decide +kernel
theorem prd_G_operationAt_13 : decode prb_G_operationAt 13 = .ok (.baload, 1) := by decide +kernel
theorem prd_G_operationAt_14 : decode prb_G_operationAt 14 = .ok (.goto 4, 3) := by decide +kernel
theorem prd_G_operandAt_0 : decode prb_G_operandAt 0 = .ok (.aload_n 0, 1) := by decide +kernel
theorem prd_G_operandAt_1 : decode prb_G_operandAt 1 = .ok (.iload_n 1, 1) := by decide +kernel
theorem prd_G_operandAt_2 : decode prb_G_operandAt 2 = .ok (.invokevirtual 78, 3) := by decide +kernel
theorem prd_G_operandAt_5 : decode prb_G_operandAt 5 = .ok (.ifCond .eq 12, 3) := by decide +kernel
theorem prd_G_operandAt_17 : decode prb_G_operandAt 17 = .ok (.iconst (-1), 1) := by decide +kernel
theorem prd_G_operandAt_18 : decode prb_G_operandAt 18 = .ok (.ireturn, 1) := by decide +kernel
theorem prd_G_operandAt_8 : decode prb_G_operandAt 8 = .ok (.aload_n 0, 1) := by decide +kernel
theorem prd_G_operandAt_9 : decode prb_G_operandAt 9 = .ok (.getfield 47, 3) := by decide +kernel
theorem prd_G_operandAt_12 : decode prb_G_operandAt 12 = .ok (.iload_n 1, 1) := by decide +kernel
theorem prd_G_operandAt_13 : decode prb_G_operandAt 13 = .ok (.iaload, 1) := by decide +kernel
theorem prd_G_operandAt_14 : decode prb_G_operandAt 14 = .ok (.goto 4, 3) := by decide +kernel

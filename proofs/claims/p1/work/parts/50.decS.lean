/-! DECODE ROWS -/
theorem prd_S_cutTo_0 : decode prb_S_cutTo 0 = .ok (.aload_n 0, 1) := by decide +kernel
theorem prd_S_cutTo_1 : decode prb_S_cutTo 1 = .ok (.iload_n 1, 1) := by decide +kernel
theorem prd_S_cutTo_2 : decode prb_S_cutTo 2 = .ok (.putfield 26, 3) := by decide +kernel
theorem prd_S_cutTo_5 : decode prb_S_cutTo 5 = .ok (.aload_n 0, 1) := by decide +kernel
theorem prd_S_cutTo_6 : decode prb_S_cutTo 6 = .ok (.iload_n 2, 1) := by decide +kernel
theorem prd_S_cutTo_7 : decode prb_S_cutTo 7 = .ok (.putfield 30, 3) := by decide +kernel
theorem prd_S_cutTo_10 : decode prb_S_cutTo 10 = .ok (.return_, 1) := by decide +kernel
theorem prd_S_isVariable_0 : decode prb_S_isVariable 0 = .ok (.iload_n 1, 1) := by decide +kernel
theorem prd_S_isVariable_1 : decode prb_S_isVariable 1 = .ok (.ifCond .lt 16, 3) := by decide +kernel
theorem prd_S_isVariable_17 : decode prb_S_isVariable 17 = .ok (.iconst 0, 1) := by decide +kernel
theorem prd_S_isVariable_18 : decode prb_S_isVariable 18 = .ok (.ireturn, 1) := by decide +kernel
theorem prd_S_isVariable_4 : decode prb_S_isVariable 4 = .ok (.iload_n 1, 1) := by decide +kernel
theorem prd_S_isVariable_5 : decode prb_S_isVariable 5 = .ok (.aload_n 0, 1) := by decide +kernel
theorem prd_S_isVariable_6 : decode prb_S_isVariable 6 = .ok (.getfield 11, 3) := by decide +kernel
theorem prd_S_isVariable_9 : decode prb_S_isVariable 9 = .ok (.arraylength, 1) := by decide +kernel
theorem prd_S_isVariable_10 : decode prb_S_isVariable 10 = .ok (.if_icmp .ge 7, 3) := by decide +kernel
theorem prd_S_isVariable_13 : decode prb_S_isVariable 13 = .ok (.iconst 1, 1) := by decide +kernel
theorem prd_S_isVariable_14 : decode prb_S_isVariable 14 = .ok (.goto 4, 3) := by decide +kernel
theorem prd_S_find_0 : decode prb_S_find 0 = .ok (.aload_n 0, 1) := by decide +kernel
theorem prd_S_find_1 : decode prb_S_find 1 = .ok (.getfield 26, 3) := by decide +kernel
theorem prd_S_find_4 : decode prb_S_find 4 = .ok (.aload_n 0, 1) := by decide +kernel
theorem prd_S_find_5 : decode prb_S_find 5 = .ok (.getfield 30, 3) := by decide +kernel
theorem prd_S_find_8 : decode prb_S_find 8 = .ok (.iadd, 1) := by decide +kernel
theorem prd_S_find_9 : decode prb_S_find 9 = .ok (.iconst 1, 1) := by decide +kernel
theorem prd_S_find_10 : decode prb_S_find 10 = .ok (.isub, 1) := by decide +kernel
theorem prd_S_find_11 : decode prb_S_find 11 = .ok (.istore_n 3, 1) := by decide +kernel
theorem prd_S_find_12 : decode prb_S_find 12 = .ok (.iload_n 3, 1) := by decide +kernel
theorem prd_S_find_13 : decode prb_S_find 13 = .ok (.iload_n 2, 1) := by decide +kernel
theorem prd_S_find_14 : decode prb_S_find 14 = .ok (.if_icmp .lt 36, 3) := by decide +kernel
theorem prd_S_find_50 : decode prb_S_find 50 = .ok (.iconst (-1), 1) := by decide +kernel
theorem prd_S_find_51 : decode prb_S_find 51 = .ok (.ireturn, 1) := by decide +kernel
theorem prd_S_find_17 : decode prb_S_find 17 = .ok (.aload_n 0, 1) := by decide +kernel
theorem prd_S_find_18 : decode prb_S_find 18 = .ok (.iload_n 3, 1) := by decide +kernel
theorem prd_S_find_19 : decode prb_S_find 19 = .ok (.invokevirtual 33, 3) := by decide +kernel
theorem prd_S_find_22 : decode prb_S_find 22 = .ok (.ifCond .eq 22, 3) := by decide +kernel
theorem prd_S_find_44 : decode prb_S_find 44 = .ok (.iinc 3 (-1), 3) := by decide +kernel
theorem prd_S_find_47 : decode prb_S_find 47 = .ok (.goto (-35), 3) := by decide +kernel
theorem prd_S_find_25 : decode prb_S_find 25 = .ok (.aload_n 0, 1) := by decide +kernel
theorem prd_S_find_26 : decode prb_S_find 26 = .ok (.getfield 22, 3) := by decide +kernel
theorem prd_S_find_29 : decode prb_S_find 29 = .ok (.aload_n 0, 1) := by decide +kernel
theorem prd_S_find_30 : decode prb_S_find 30 = .ok (.getfield 11, 3) := by decide +kernel
theorem prd_S_find_33 : decode prb_S_find 33 = .ok (.iload_n 3, 1) := by decide +kernel
theorem prd_S_find_34 : decode prb_S_find 34 = .ok (.iaload, 1) := by decide +kernel
theorem prd_S_find_35 : decode prb_S_find 35 = .ok (.iload_n 1, 1) := by decide +kernel
theorem prd_S_find_36 : decode prb_S_find 36 = .ok (.invokevirtual 37, 3) := by decide +kernel
theorem prd_S_find_39 : decode prb_S_find 39 = .ok (.ifCond .eq 5, 3) := by decide +kernel
theorem prd_S_find_42 : decode prb_S_find 42 = .ok (.iload_n 3, 1) := by decide +kernel
theorem prd_S_find_43 : decode prb_S_find 43 = .ok (.ireturn, 1) := by decide +kernel
theorem prd_S_isArray_0 : decode prb_S_isArray 0 = .ok (.aload_n 0, 1) := by decide +kernel
theorem prd_S_isArray_1 : decode prb_S_isArray 1 = .ok (.iload_n 1, 1) := by decide +kernel
theorem prd_S_isArray_2 : decode prb_S_isArray 2 = .ok (.invokevirtual 33, 3) := by decide +kernel
theorem prd_S_isArray_5 : decode prb_S_isArray 5 = .ok (.ifCond .eq 16, 3) := by decide +kernel
theorem prd_S_isArray_21 : decode prb_S_isArray 21 = .ok (.iconst 0, 1) := by decide +kernel
theorem prd_S_isArray_22 : decode prb_S_isArray 22 = .ok (.ireturn, 1) := by decide +kernel
theorem prd_S_isArray_8 : decode prb_S_isArray 8 = .ok (.aload_n 0, 1) := by decide +kernel
theorem prd_S_isArray_9 : decode prb_S_isArray 9 = .ok (.getfield 18, 3) := by decide +kernel
theorem prd_S_isArray_12 : decode prb_S_isArray 12 = .ok (.iload_n 1, 1) := by decide +kernel
theorem prd_S_isArray_13 : decode prb_S_isArray 13 = .ok (.baload, 1) := by decide +kernel
theorem prd_S_isArray_14 : decode prb_S_isArray 14 = .ok (.ifCond .eq 7, 3) := by decide +kernel
theorem prd_S_isArray_17 : decode prb_S_isArray 17 = .ok (.iconst 1, 1) := by decide +kernel
theorem prd_S_isArray_18 : decode prb_S_isArray 18 = .ok (.goto 4, 3) := by decide +kernel
theorem prd_S_slotOf_0 : decode prb_S_slotOf 0 = .ok (.aload_n 0, 1) := by decide +kernel
theorem prd_S_slotOf_1 : decode prb_S_slotOf 1 = .ok (.iload_n 1, 1) := by decide +kernel
theorem prd_S_slotOf_2 : decode prb_S_slotOf 2 = .ok (.invokevirtual 33, 3) := by decide +kernel
theorem prd_S_slotOf_5 : decode prb_S_slotOf 5 = .ok (.ifCond .eq 12, 3) := by decide +kernel
theorem prd_S_slotOf_17 : decode prb_S_slotOf 17 = .ok (.iconst (-1), 1) := by decide +kernel
theorem prd_S_slotOf_18 : decode prb_S_slotOf 18 = .ok (.ireturn, 1) := by decide +kernel
theorem prd_S_slotOf_8 : decode prb_S_slotOf 8 = .ok (.aload_n 0, 1) := by decide +kernel
theorem prd_S_slotOf_9 : decode prb_S_slotOf 9 = .ok (.getfield 15, 3) := by decide +kernel
theorem prd_S_slotOf_12 : decode prb_S_slotOf 12 = .ok (.iload_n 1, 1) := by decide +kernel
theorem prd_S_slotOf_13 : decode prb_S_slotOf 13 = .ok (.iaload, 1) := by decide +kernel
theorem prd_S_slotOf_14 : decode prb_S_slotOf 14 = .ok (.goto 4, 3) := by decide +kernel
theorem prd_S_arrays_0 : decode prb_S_arrays 0 = .ok (.aload_n 0, 1) := by decide +kernel
theorem prd_S_arrays_1 : decode prb_S_arrays 1 = .ok (.getfield 30, 3) := by decide +kernel
theorem prd_S_arrays_4 : decode prb_S_arrays 4 = .ok (.ireturn, 1) := by decide +kernel
theorem prd_S_numbers_0 : decode prb_S_numbers 0 = .ok (.aload_n 0, 1) := by decide +kernel
theorem prd_S_numbers_1 : decode prb_S_numbers 1 = .ok (.getfield 26, 3) := by decide +kernel
theorem prd_S_numbers_4 : decode prb_S_numbers 4 = .ok (.ireturn, 1) := by decide +kernel
theorem prd_S_add_0 : decode prb_S_add 0 = .ok (.aload_n 0, 1) := by decide +kernel
theorem prd_S_add_1 : decode prb_S_add 1 = .ok (.getfield 26, 3) := by decide +kernel
theorem prd_S_add_4 : decode prb_S_add 4 = .ok (.aload_n 0, 1) := by decide +kernel
theorem prd_S_add_5 : decode prb_S_add 5 = .ok (.getfield 30, 3) := by decide +kernel
theorem prd_S_add_8 : decode prb_S_add 8 = .ok (.iadd, 1) := by decide +kernel
theorem prd_S_add_9 : decode prb_S_add 9 = .ok (.istore_n 3, 1) := by decide +kernel
theorem prd_S_add_10 : decode prb_S_add 10 = .ok (.iload_n 3, 1) := by decide +kernel
theorem prd_S_add_11 : decode prb_S_add 11 = .ok (.ifCond .lt 12, 3) := by decide +kernel
theorem prd_S_add_23 : decode prb_S_add 23 = .ok (.return_, 1) := by decide +kernel
theorem prd_S_add_14 : decode prb_S_add 14 = .ok (.iload_n 3, 1) := by decide +kernel
theorem prd_S_add_15 : decode prb_S_add 15 = .ok (.aload_n 0, 1) := by decide +kernel
theorem prd_S_add_16 : decode prb_S_add 16 = .ok (.getfield 11, 3) := by decide +kernel
theorem prd_S_add_19 : decode prb_S_add 19 = .ok (.arraylength, 1) := by decide +kernel
theorem prd_S_add_20 : decode prb_S_add 20 = .ok (.if_icmp .lt 4, 3) := by decide +kernel
theorem prd_S_add_24 : decode prb_S_add 24 = .ok (.aload_n 0, 1) := by decide +kernel
theorem prd_S_add_25 : decode prb_S_add 25 = .ok (.getfield 11, 3) := by decide +kernel
theorem prd_S_add_28 : decode prb_S_add 28 = .ok (.iload_n 3, 1) := by decide +kernel
theorem prd_S_add_29 : decode prb_S_add 29 = .ok (.iload_n 1, 1) := by decide +kernel
theorem prd_S_add_30 : decode prb_S_add 30 = .ok (.iastore, 1) := by decide +kernel
theorem prd_S_add_31 : decode prb_S_add 31 = .ok (.aload_n 0, 1) := by decide +kernel
theorem prd_S_add_32 : decode prb_S_add 32 = .ok (.getfield 18, 3) := by decide +kernel
theorem prd_S_add_35 : decode prb_S_add 35 = .ok (.iload_n 3, 1) := by decide +kernel
theorem prd_S_add_36 : decode prb_S_add 36 = .ok (.iload_n 2, 1) := by decide +kernel
theorem prd_S_add_37 : decode prb_S_add 37 = .ok (.bastore, 1) := by decide +kernel
theorem prd_S_add_38 : decode prb_S_add 38 = .ok (.iload_n 2, 1) := by decide +kernel
theorem prd_S_add_39 : decode prb_S_add 39 = .ok (.ifCond .eq 26, 3) := by decide +kernel
theorem prd_S_add_65 : decode prb_S_add 65 = .ok (.aload_n 0, 1) := by decide +kernel
theorem prd_S_add_66 : decode prb_S_add 66 = .ok (.getfield 15, 3) := by decide +kernel
theorem prd_S_add_69 : decode prb_S_add 69 = .ok (.iload_n 3, 1) := by decide +kernel
theorem prd_S_add_70 : decode prb_S_add 70 = .ok (.aload_n 0, 1) := by decide +kernel
theorem prd_S_add_71 : decode prb_S_add 71 = .ok (.getfield 26, 3) := by decide +kernel
theorem prd_S_add_74 : decode prb_S_add 74 = .ok (.iastore, 1) := by decide +kernel
theorem prd_S_add_75 : decode prb_S_add 75 = .ok (.aload_n 0, 1) := by decide +kernel
theorem prd_S_add_76 : decode prb_S_add 76 = .ok (.dup, 1) := by decide +kernel
theorem prd_S_add_77 : decode prb_S_add 77 = .ok (.getfield 26, 3) := by decide +kernel
theorem prd_S_add_80 : decode prb_S_add 80 = .ok (.iconst 1, 1) := by decide +kernel
theorem prd_S_add_81 : decode prb_S_add 81 = .ok (.iadd, 1) := by decide +kernel
theorem prd_S_add_82 : decode prb_S_add 82 = .ok (.putfield 26, 3) := by decide +kernel
theorem prd_S_add_85 : decode prb_S_add 85 = .ok (.return_, 1) := by decide +kernel
theorem prd_S_add_42 : decode prb_S_add 42 = .ok (.aload_n 0, 1) := by decide +kernel
theorem prd_S_add_43 : decode prb_S_add 43 = .ok (.getfield 15, 3) := by decide +kernel
theorem prd_S_add_46 : decode prb_S_add 46 = .ok (.iload_n 3, 1) := by decide +kernel
theorem prd_S_add_47 : decode prb_S_add 47 = .ok (.aload_n 0, 1) := by decide +kernel
theorem prd_S_add_48 : decode prb_S_add 48 = .ok (.getfield 30, 3) := by decide +kernel
theorem prd_S_add_51 : decode prb_S_add 51 = .ok (.iastore, 1) := by decide +kernel
theorem prd_S_add_52 : decode prb_S_add 52 = .ok (.aload_n 0, 1) := by decide +kernel
theorem prd_S_add_53 : decode prb_S_add 53 = .ok (.dup, 1) := by decide +kernel
theorem prd_S_add_54 : decode prb_S_add 54 = .ok (.getfield 30, 3) := by decide +kernel
theorem prd_S_add_57 : decode prb_S_add 57 = .ok (.iconst 1, 1) := by decide +kernel
theorem prd_S_add_58 : decode prb_S_add 58 = .ok (.iadd, 1) := by decide +kernel
theorem prd_S_add_59 : decode prb_S_add 59 = .ok (.putfield 30, 3) := by decide +kernel
theorem prd_S_add_62 : decode prb_S_add 62 = .ok (.goto 23, 3) := by decide +kernel

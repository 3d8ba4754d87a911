theorem dX3_brought_19 : decode cX3_brought 19 = .ok (.iload_n 3, 1) := by decide +kernel
theorem dX3_brought_20 : decode cX3_brought 20 = .ok (.i2l, 1) := by decide +kernel
theorem dX3_brought_21 : decode cX3_brought 21 = .ok (.lconst 0, 1) := by decide +kernel
theorem dX3_brought_22 : decode cX3_brought 22 = .ok (.lconst 1, 1) := by decide +kernel
theorem dX3_brought_23 : decode cX3_brought 23 = .ok (.invokestatic 65, 3) := by decide +kernel
theorem dX3_brought_26 : decode cX3_brought 26 = .ok (.ifCond .ne 7, 3) := by decide +kernel
theorem dX3_brought_29 : decode cX3_brought 29 = .ok (.ldc2_w 90, 3) := by decide +kernel
theorem dX3_brought_32 : decode cX3_brought 32 = .ok (.lreturn, 1) := by decide +kernel
theorem dX3_brought_33 : decode cX3_brought 33 = .ok (.iload_n 3, 1) := by decide +kernel
theorem dX3_brought_34 : decode cX3_brought 34 = .ok (.ifCond .ne 11, 3) := by decide +kernel
theorem dX3_brought_37 : decode cX3_brought 37 = .ok (.aload 4, 2) := by decide +kernel
theorem dX3_brought_39 : decode cX3_brought 39 = .ok (.getfield 226, 3) := by decide +kernel
theorem dX3_brought_42 : decode cX3_brought 42 = .ok (.goto 8, 3) := by decide +kernel
theorem dX3_brought_45 : decode cX3_brought 45 = .ok (.aload 4, 2) := by decide +kernel
theorem dX3_brought_47 : decode cX3_brought 47 = .ok (.getfield 230, 3) := by decide +kernel
theorem dX3_brought_50 : decode cX3_brought 50 = .ok (.astore 5, 2) := by decide +kernel
theorem dX3_brought_52 : decode cX3_brought 52 = .ok (.aload 5, 2) := by decide +kernel
theorem dX3_brought_54 : decode cX3_brought 54 = .ok (.ifnonnull 7, 3) := by decide +kernel
theorem dX3_brought_57 : decode cX3_brought 57 = .ok (.lconst 0, 1) := by decide +kernel
theorem dX3_brought_58 : decode cX3_brought 58 = .ok (.goto 9, 3) := by decide +kernel
theorem dX3_brought_61 : decode cX3_brought 61 = .ok (.aload 5, 2) := by decide +kernel
theorem dX3_brought_63 : decode cX3_brought 63 = .ok (.iload_n 2, 1) := by decide +kernel
theorem dX3_brought_64 : decode cX3_brought 64 = .ok (.invokevirtual 92, 3) := by decide +kernel
theorem dX3_brought_67 : decode cX3_brought 67 = .ok (.lreturn, 1) := by decide +kernel
theorem dX3_label_0 : decode cX3_label 0 = .ok (.aload_n 0, 1) := by decide +kernel
theorem dX3_label_1 : decode cX3_label 1 = .ok (.iload_n 1, 1) := by decide +kernel
theorem dX3_label_2 : decode cX3_label 2 = .ok (.invokevirtual 86, 3) := by decide +kernel
theorem dX3_label_5 : decode cX3_label 5 = .ok (.astore_n 3, 1) := by decide +kernel
theorem dX3_label_6 : decode cX3_label 6 = .ok (.aload_n 3, 1) := by decide +kernel
theorem dX3_label_7 : decode cX3_label 7 = .ok (.ifnonnull 5, 3) := by decide +kernel
theorem dX3_label_10 : decode cX3_label 10 = .ok (.iconst (-1), 1) := by decide +kernel
theorem dX3_label_11 : decode cX3_label 11 = .ok (.ireturn, 1) := by decide +kernel
theorem dX3_label_12 : decode cX3_label 12 = .ok (.aload_n 0, 1) := by decide +kernel
theorem dX3_label_13 : decode cX3_label 13 = .ok (.iload_n 1, 1) := by decide +kernel
theorem dX3_label_14 : decode cX3_label 14 = .ok (.aload_n 3, 1) := by decide +kernel
theorem dX3_label_15 : decode cX3_label 15 = .ok (.invokevirtual 233, 3) := by decide +kernel
theorem dX3_label_18 : decode cX3_label 18 = .ok (.iload_n 2, 1) := by decide +kernel
theorem dX3_label_19 : decode cX3_label 19 = .ok (.ifCond .lt 14, 3) := by decide +kernel
theorem dX3_label_22 : decode cX3_label 22 = .ok (.iload_n 2, 1) := by decide +kernel
theorem dX3_label_23 : decode cX3_label 23 = .ok (.aload_n 0, 1) := by decide +kernel
theorem dX3_label_24 : decode cX3_label 24 = .ok (.getfield 48, 3) := by decide +kernel
theorem dX3_label_27 : decode cX3_label 27 = .ok (.invokevirtual 237, 3) := by decide +kernel
theorem dX3_label_30 : decode cX3_label 30 = .ok (.if_icmp .lt 5, 3) := by decide +kernel
theorem dX3_label_33 : decode cX3_label 33 = .ok (.iconst (-1), 1) := by decide +kernel
theorem dX3_label_34 : decode cX3_label 34 = .ok (.ireturn, 1) := by decide +kernel
theorem dX3_label_35 : decode cX3_label 35 = .ok (.aload_n 0, 1) := by decide +kernel
theorem dX3_label_36 : decode cX3_label 36 = .ok (.getfield 48, 3) := by decide +kernel
theorem dX3_label_39 : decode cX3_label 39 = .ok (.iload_n 2, 1) := by decide +kernel
theorem dX3_label_40 : decode cX3_label 40 = .ok (.invokevirtual 240, 3) := by decide +kernel
theorem dX3_label_43 : decode cX3_label 43 = .ok (.ireturn, 1) := by decide +kernel
theorem dX3_state_0 : decode cX3_state 0 = .ok (.aload_n 0, 1) := by decide +kernel
theorem dX3_state_1 : decode cX3_state 1 = .ok (.iload_n 1, 1) := by decide +kernel
theorem dX3_state_2 : decode cX3_state 2 = .ok (.invokevirtual 86, 3) := by decide +kernel
theorem dX3_state_5 : decode cX3_state 5 = .ok (.astore_n 2, 1) := by decide +kernel
theorem dX3_state_6 : decode cX3_state 6 = .ok (.aload_n 2, 1) := by decide +kernel
theorem dX3_state_7 : decode cX3_state 7 = .ok (.ifnonnull 7, 3) := by decide +kernel
theorem dX3_state_10 : decode cX3_state 10 = .ok (.iconst (-1), 1) := by decide +kernel
theorem dX3_state_11 : decode cX3_state 11 = .ok (.goto 7, 3) := by decide +kernel
theorem dX3_state_14 : decode cX3_state 14 = .ok (.aload_n 2, 1) := by decide +kernel
theorem dX3_state_15 : decode cX3_state 15 = .ok (.getfield 164, 3) := by decide +kernel
theorem dX3_state_18 : decode cX3_state 18 = .ok (.ireturn, 1) := by decide +kernel
theorem dX3_isKind_0 : decode cX3_isKind 0 = .ok (.iload_n 0, 1) := by decide +kernel
theorem dX3_isKind_1 : decode cX3_isKind 1 = .ok (.ifCond .lt 12, 3) := by decide +kernel
theorem dX3_isKind_4 : decode cX3_isKind 4 = .ok (.iload_n 0, 1) := by decide +kernel
theorem dX3_isKind_5 : decode cX3_isKind 5 = .ok (.iconst 4, 1) := by decide +kernel
theorem dX3_isKind_6 : decode cX3_isKind 6 = .ok (.if_icmp .ge 7, 3) := by decide +kernel
theorem dX3_isKind_9 : decode cX3_isKind 9 = .ok (.iconst 1, 1) := by decide +kernel
theorem dX3_isKind_10 : decode cX3_isKind 10 = .ok (.goto 4, 3) := by decide +kernel
theorem dX3_isKind_13 : decode cX3_isKind 13 = .ok (.iconst 0, 1) := by decide +kernel
theorem dX3_isKind_14 : decode cX3_isKind 14 = .ok (.ireturn, 1) := by decide +kernel
theorem dX3_isWithin_0 : decode cX3_isWithin 0 = .ok (.lload_n 0, 1) := by decide +kernel
theorem dX3_isWithin_1 : decode cX3_isWithin 1 = .ok (.lload_n 2, 1) := by decide +kernel
theorem dX3_isWithin_2 : decode cX3_isWithin 2 = .ok (.lcmp, 1) := by decide +kernel
theorem dX3_isWithin_3 : decode cX3_isWithin 3 = .ok (.ifCond .lt 14, 3) := by decide +kernel
theorem dX3_isWithin_6 : decode cX3_isWithin 6 = .ok (.lload_n 0, 1) := by decide +kernel
theorem dX3_isWithin_7 : decode cX3_isWithin 7 = .ok (.lload 4, 2) := by decide +kernel
theorem dX3_isWithin_9 : decode cX3_isWithin 9 = .ok (.lcmp, 1) := by decide +kernel
theorem dX3_isWithin_10 : decode cX3_isWithin 10 = .ok (.ifCond .gt 7, 3) := by decide +kernel
theorem dX3_isWithin_13 : decode cX3_isWithin 13 = .ok (.iconst 1, 1) := by decide +kernel
theorem dX3_isWithin_14 : decode cX3_isWithin 14 = .ok (.goto 4, 3) := by decide +kernel
theorem dX3_isWithin_17 : decode cX3_isWithin 17 = .ok (.iconst 0, 1) := by decide +kernel
theorem dX3_isWithin_18 : decode cX3_isWithin 18 = .ok (.ireturn, 1) := by decide +kernel
theorem dX3_isBetween_0 : decode cX3_isBetween 0 = .ok (.dload_n 0, 1) := by decide +kernel
theorem dX3_isBetween_1 : decode cX3_isBetween 1 = .ok (.dload_n 2, 1) := by decide +kernel
theorem dX3_isBetween_2 : decode cX3_isBetween 2 = .ok (.dcmp .l, 1) := by decide +kernel
theorem dX3_isBetween_3 : decode cX3_isBetween 3 = .ok (.ifCond .lt 14, 3) := by decide +kernel
theorem dX3_isBetween_6 : decode cX3_isBetween 6 = .ok (.dload_n 0, 1) := by decide +kernel
theorem dX3_isBetween_7 : decode cX3_isBetween 7 = .ok (.dload 4, 2) := by decide +kernel
theorem dX3_isBetween_9 : decode cX3_isBetween 9 = .ok (.dcmp .g, 1) := by decide +kernel
theorem dX3_isBetween_10 : decode cX3_isBetween 10 = .ok (.ifCond .gt 7, 3) := by decide +kernel
theorem dX3_isBetween_13 : decode cX3_isBetween 13 = .ok (.iconst 1, 1) := by decide +kernel
theorem dX3_isBetween_14 : decode cX3_isBetween 14 = .ok (.goto 4, 3) := by decide +kernel
theorem dX3_isBetween_17 : decode cX3_isBetween 17 = .ok (.iconst 0, 1) := by decide +kernel
theorem dX3_isBetween_18 : decode cX3_isBetween 18 = .ok (.ireturn, 1) := by decide +kernel
theorem dX3_keepBale_0 : decode cX3_keepBale 0 = .ok (.aload_n 0, 1) := by decide +kernel
theorem dX3_keepBale_1 : decode cX3_keepBale 1 = .ok (.getfield 74, 3) := by decide +kernel
theorem dX3_keepBale_4 : decode cX3_keepBale 4 = .ok (.bipush 12, 2) := by decide +kernel
theorem dX3_keepBale_6 : decode cX3_keepBale 6 = .ok (.if_icmp .lt 5, 3) := by decide +kernel
theorem dX3_keepBale_9 : decode cX3_keepBale 9 = .ok (.iconst (-1), 1) := by decide +kernel
theorem dX3_keepBale_10 : decode cX3_keepBale 10 = .ok (.ireturn, 1) := by decide +kernel
theorem dX3_keepBale_11 : decode cX3_keepBale 11 = .ok (.aload_n 0, 1) := by decide +kernel
theorem dX3_keepBale_12 : decode cX3_keepBale 12 = .ok (.getfield 22, 3) := by decide +kernel
theorem dX3_keepBale_15 : decode cX3_keepBale 15 = .ok (.aload_n 0, 1) := by decide +kernel
theorem dX3_keepBale_16 : decode cX3_keepBale 16 = .ok (.getfield 74, 3) := by decide +kernel
theorem dX3_keepBale_19 : decode cX3_keepBale 19 = .ok (.aload_n 1, 1) := by decide +kernel
theorem dX3_keepBale_20 : decode cX3_keepBale 20 = .ok (.aastore, 1) := by decide +kernel
theorem dX3_keepBale_21 : decode cX3_keepBale 21 = .ok (.aload_n 0, 1) := by decide +kernel
theorem dX3_keepBale_22 : decode cX3_keepBale 22 = .ok (.dup, 1) := by decide +kernel
theorem dX3_keepBale_23 : decode cX3_keepBale 23 = .ok (.getfield 74, 3) := by decide +kernel
theorem dX3_keepBale_26 : decode cX3_keepBale 26 = .ok (.iconst 1, 1) := by decide +kernel
theorem dX3_keepBale_27 : decode cX3_keepBale 27 = .ok (.iadd, 1) := by decide +kernel
theorem dX3_keepBale_28 : decode cX3_keepBale 28 = .ok (.putfield 74, 3) := by decide +kernel
theorem dX3_keepBale_31 : decode cX3_keepBale 31 = .ok (.aload_n 0, 1) := by decide +kernel
theorem dX3_keepBale_32 : decode cX3_keepBale 32 = .ok (.getfield 74, 3) := by decide +kernel
theorem dX3_keepBale_35 : decode cX3_keepBale 35 = .ok (.iconst 1, 1) := by decide +kernel
theorem dX3_keepBale_36 : decode cX3_keepBale 36 = .ok (.isub, 1) := by decide +kernel
theorem dX3_keepBale_37 : decode cX3_keepBale 37 = .ok (.ireturn, 1) := by decide +kernel
theorem dX3_findBale_0 : decode cX3_findBale 0 = .ok (.iload_n 1, 1) := by decide +kernel
theorem dX3_findBale_1 : decode cX3_findBale 1 = .ok (.ifCond .lt 20, 3) := by decide +kernel
theorem dX3_findBale_4 : decode cX3_findBale 4 = .ok (.iload_n 1, 1) := by decide +kernel
theorem dX3_findBale_5 : decode cX3_findBale 5 = .ok (.aload_n 0, 1) := by decide +kernel
theorem dX3_findBale_6 : decode cX3_findBale 6 = .ok (.getfield 74, 3) := by decide +kernel
theorem dX3_findBale_9 : decode cX3_findBale 9 = .ok (.if_icmp .ge 12, 3) := by decide +kernel
theorem dX3_findBale_12 : decode cX3_findBale 12 = .ok (.aload_n 0, 1) := by decide +kernel
theorem dX3_findBale_13 : decode cX3_findBale 13 = .ok (.getfield 22, 3) := by decide +kernel
theorem dX3_findBale_16 : decode cX3_findBale 16 = .ok (.iload_n 1, 1) := by decide +kernel
theorem dX3_findBale_17 : decode cX3_findBale 17 = .ok (.aaload, 1) := by decide +kernel
theorem dX3_findBale_18 : decode cX3_findBale 18 = .ok (.goto 4, 3) := by decide +kernel
theorem dX3_findBale_21 : decode cX3_findBale 21 = .ok (.aconst_null, 1) := by decide +kernel
theorem dX3_findBale_22 : decode cX3_findBale 22 = .ok (.areturn, 1) := by decide +kernel
theorem dX3_findStack_0 : decode cX3_findStack 0 = .ok (.iload_n 1, 1) := by decide +kernel
theorem dX3_findStack_1 : decode cX3_findStack 1 = .ok (.ifCond .lt 20, 3) := by decide +kernel
theorem dX3_findStack_4 : decode cX3_findStack 4 = .ok (.iload_n 1, 1) := by decide +kernel
theorem dX3_findStack_5 : decode cX3_findStack 5 = .ok (.aload_n 0, 1) := by decide +kernel
theorem dX3_findStack_6 : decode cX3_findStack 6 = .ok (.getfield 152, 3) := by decide +kernel
theorem dX3_findStack_9 : decode cX3_findStack 9 = .ok (.if_icmp .ge 12, 3) := by decide +kernel
theorem dX3_findStack_12 : decode cX3_findStack 12 = .ok (.aload_n 0, 1) := by decide +kernel
theorem dX3_findStack_13 : decode cX3_findStack 13 = .ok (.getfield 35, 3) := by decide +kernel
theorem dX3_findStack_16 : decode cX3_findStack 16 = .ok (.iload_n 1, 1) := by decide +kernel
theorem dX3_findStack_17 : decode cX3_findStack 17 = .ok (.aaload, 1) := by decide +kernel
theorem dX3_findStack_18 : decode cX3_findStack 18 = .ok (.goto 4, 3) := by decide +kernel
theorem dX3_findStack_21 : decode cX3_findStack 21 = .ok (.aconst_null, 1) := by decide +kernel
theorem dX3_findStack_22 : decode cX3_findStack 22 = .ok (.areturn, 1) := by decide +kernel
theorem dX3_findLorry_0 : decode cX3_findLorry 0 = .ok (.iload_n 1, 1) := by decide +kernel
theorem dX3_findLorry_1 : decode cX3_findLorry 1 = .ok (.ifCond .lt 20, 3) := by decide +kernel
theorem dX3_findLorry_4 : decode cX3_findLorry 4 = .ok (.iload_n 1, 1) := by decide +kernel
theorem dX3_findLorry_5 : decode cX3_findLorry 5 = .ok (.aload_n 0, 1) := by decide +kernel
theorem dX3_findLorry_6 : decode cX3_findLorry 6 = .ok (.getfield 191, 3) := by decide +kernel
theorem dX3_findLorry_9 : decode cX3_findLorry 9 = .ok (.if_icmp .ge 12, 3) := by decide +kernel
theorem dX3_findLorry_12 : decode cX3_findLorry 12 = .ok (.aload_n 0, 1) := by decide +kernel
theorem dX3_findLorry_13 : decode cX3_findLorry 13 = .ok (.getfield 41, 3) := by decide +kernel
theorem dX3_findLorry_16 : decode cX3_findLorry 16 = .ok (.iload_n 1, 1) := by decide +kernel
theorem dX3_findLorry_17 : decode cX3_findLorry 17 = .ok (.aaload, 1) := by decide +kernel
theorem dX3_findLorry_18 : decode cX3_findLorry 18 = .ok (.goto 4, 3) := by decide +kernel
theorem dX3_findLorry_21 : decode cX3_findLorry 21 = .ok (.aconst_null, 1) := by decide +kernel
theorem dX3_findLorry_22 : decode cX3_findLorry 22 = .ok (.areturn, 1) := by decide +kernel
theorem dX3_gainAt_0 : decode cX3_gainAt 0 = .ok (.dconst 0, 1) := by decide +kernel
theorem dX3_gainAt_1 : decode cX3_gainAt 1 = .ok (.dstore_n 3, 1) := by decide +kernel
theorem dX3_gainAt_2 : decode cX3_gainAt 2 = .ok (.iconst 0, 1) := by decide +kernel
theorem dX3_gainAt_3 : decode cX3_gainAt 3 = .ok (.istore 5, 2) := by decide +kernel
theorem dX3_gainAt_5 : decode cX3_gainAt 5 = .ok (.iload 5, 2) := by decide +kernel
theorem dX3_gainAt_7 : decode cX3_gainAt 7 = .ok (.aload_n 0, 1) := by decide +kernel
theorem dX3_gainAt_8 : decode cX3_gainAt 8 = .ok (.getfield 116, 3) := by decide +kernel
theorem dX3_gainAt_11 : decode cX3_gainAt 11 = .ok (.if_icmp .ge 29, 3) := by decide +kernel
theorem dX3_gainAt_14 : decode cX3_gainAt 14 = .ok (.aload_n 0, 1) := by decide +kernel
theorem dX3_gainAt_15 : decode cX3_gainAt 15 = .ok (.getfield 26, 3) := by decide +kernel
theorem dX3_gainAt_18 : decode cX3_gainAt 18 = .ok (.iload 5, 2) := by decide +kernel
theorem dX3_gainAt_20 : decode cX3_gainAt 20 = .ok (.daload, 1) := by decide +kernel
theorem dX3_gainAt_21 : decode cX3_gainAt 21 = .ok (.dload_n 1, 1) := by decide +kernel
theorem dX3_gainAt_22 : decode cX3_gainAt 22 = .ok (.dcmp .g, 1) := by decide +kernel
theorem dX3_gainAt_23 : decode cX3_gainAt 23 = .ok (.ifCond .gt 11, 3) := by decide +kernel
theorem dX3_gainAt_26 : decode cX3_gainAt 26 = .ok (.aload_n 0, 1) := by decide +kernel
theorem dX3_gainAt_27 : decode cX3_gainAt 27 = .ok (.getfield 30, 3) := by decide +kernel
theorem dX3_gainAt_30 : decode cX3_gainAt 30 = .ok (.iload 5, 2) := by decide +kernel
theorem dX3_gainAt_32 : decode cX3_gainAt 32 = .ok (.daload, 1) := by decide +kernel
theorem dX3_gainAt_33 : decode cX3_gainAt 33 = .ok (.dstore_n 3, 1) := by decide +kernel
theorem dX3_gainAt_34 : decode cX3_gainAt 34 = .ok (.iinc 5 1, 3) := by decide +kernel
theorem dX3_gainAt_37 : decode cX3_gainAt 37 = .ok (.goto (-32), 3) := by decide +kernel
theorem dX3_gainAt_40 : decode cX3_gainAt 40 = .ok (.dload_n 3, 1) := by decide +kernel
theorem dX3_gainAt_41 : decode cX3_gainAt 41 = .ok (.dreturn, 1) := by decide +kernel
theorem dX3_isAlarming_0 : decode cX3_isAlarming 0 = .ok (.aload_n 0, 1) := by decide +kernel
theorem dX3_isAlarming_1 : decode cX3_isAlarming 1 = .ok (.iload_n 1, 1) := by decide +kernel
theorem dX3_isAlarming_2 : decode cX3_isAlarming 2 = .ok (.invokevirtual 86, 3) := by decide +kernel
theorem dX3_isAlarming_5 : decode cX3_isAlarming 5 = .ok (.astore_n 2, 1) := by decide +kernel
theorem dX3_isAlarming_6 : decode cX3_isAlarming 6 = .ok (.aload_n 2, 1) := by decide +kernel
theorem dX3_isAlarming_7 : decode cX3_isAlarming 7 = .ok (.ifnull 25, 3) := by decide +kernel
theorem dX3_isAlarming_10 : decode cX3_isAlarming 10 = .ok (.aload_n 2, 1) := by decide +kernel
theorem dX3_isAlarming_11 : decode cX3_isAlarming 11 = .ok (.invokevirtual 125, 3) := by decide +kernel
theorem dX3_isAlarming_14 : decode cX3_isAlarming 14 = .ok (.ifCond .ne 18, 3) := by decide +kernel
theorem dX3_isAlarming_17 : decode cX3_isAlarming 17 = .ok (.aload_n 2, 1) := by decide +kernel
theorem dX3_isAlarming_18 : decode cX3_isAlarming 18 = .ok (.getfield 244, 3) := by decide +kernel
theorem dX3_isAlarming_21 : decode cX3_isAlarming 21 = .ok (.aload_n 0, 1) := by decide +kernel
theorem dX3_isAlarming_22 : decode cX3_isAlarming 22 = .ok (.getfield 52, 3) := by decide +kernel
theorem dX3_isAlarming_25 : decode cX3_isAlarming 25 = .ok (.if_icmp .lt 7, 3) := by decide +kernel
theorem dX3_isAlarming_28 : decode cX3_isAlarming 28 = .ok (.iconst 1, 1) := by decide +kernel
theorem dX3_isAlarming_29 : decode cX3_isAlarming 29 = .ok (.goto 4, 3) := by decide +kernel
theorem dX3_isAlarming_32 : decode cX3_isAlarming 32 = .ok (.iconst 0, 1) := by decide +kernel
theorem dX3_isAlarming_33 : decode cX3_isAlarming 33 = .ok (.ireturn, 1) := by decide +kernel
theorem dX3_balesOn_0 : decode cX3_balesOn 0 = .ok (.iconst 0, 1) := by decide +kernel
theorem dX3_balesOn_1 : decode cX3_balesOn 1 = .ok (.istore_n 2, 1) := by decide +kernel
theorem dX3_balesOn_2 : decode cX3_balesOn 2 = .ok (.iconst 0, 1) := by decide +kernel
theorem dX3_balesOn_3 : decode cX3_balesOn 3 = .ok (.istore_n 3, 1) := by decide +kernel
theorem dX3_balesOn_4 : decode cX3_balesOn 4 = .ok (.iload_n 3, 1) := by decide +kernel
theorem dX3_balesOn_5 : decode cX3_balesOn 5 = .ok (.aload_n 0, 1) := by decide +kernel
theorem dX3_balesOn_6 : decode cX3_balesOn 6 = .ok (.getfield 74, 3) := by decide +kernel
theorem dX3_balesOn_9 : decode cX3_balesOn 9 = .ok (.if_icmp .ge 33, 3) := by decide +kernel
theorem dX3_balesOn_12 : decode cX3_balesOn 12 = .ok (.aload_n 0, 1) := by decide +kernel
theorem dX3_balesOn_13 : decode cX3_balesOn 13 = .ok (.iload_n 3, 1) := by decide +kernel
theorem dX3_balesOn_14 : decode cX3_balesOn 14 = .ok (.invokevirtual 86, 3) := by decide +kernel
theorem dX3_balesOn_17 : decode cX3_balesOn 17 = .ok (.astore 4, 2) := by decide +kernel
theorem dX3_balesOn_19 : decode cX3_balesOn 19 = .ok (.aload 4, 2) := by decide +kernel
theorem dX3_balesOn_21 : decode cX3_balesOn 21 = .ok (.ifnull 15, 3) := by decide +kernel
theorem dX3_balesOn_24 : decode cX3_balesOn 24 = .ok (.aload 4, 2) := by decide +kernel
theorem dX3_balesOn_26 : decode cX3_balesOn 26 = .ok (.iload_n 1, 1) := by decide +kernel
theorem dX3_balesOn_27 : decode cX3_balesOn 27 = .ok (.invokevirtual 247, 3) := by decide +kernel
theorem dX3_balesOn_30 : decode cX3_balesOn 30 = .ok (.ifCond .eq 6, 3) := by decide +kernel
theorem dX3_balesOn_33 : decode cX3_balesOn 33 = .ok (.iinc 2 1, 3) := by decide +kernel
theorem dX3_balesOn_36 : decode cX3_balesOn 36 = .ok (.iinc 3 1, 3) := by decide +kernel
theorem dX3_balesOn_39 : decode cX3_balesOn 39 = .ok (.goto (-35), 3) := by decide +kernel
theorem dX3_balesOn_42 : decode cX3_balesOn 42 = .ok (.iload_n 2, 1) := by decide +kernel
theorem dX3_balesOn_43 : decode cX3_balesOn 43 = .ok (.ireturn, 1) := by decide +kernel
theorem dX3_bearsOtherMainKind_0 : decode cX3_bearsOtherMainKind 0 = .ok (.iconst 0, 1) := by decide +kernel
theorem dX3_bearsOtherMainKind_1 : decode cX3_bearsOtherMainKind 1 = .ok (.istore_n 3, 1) := by decide +kernel
theorem dX3_bearsOtherMainKind_2 : decode cX3_bearsOtherMainKind 2 = .ok (.iload_n 3, 1) := by decide +kernel
theorem dX3_bearsOtherMainKind_3 : decode cX3_bearsOtherMainKind 3 = .ok (.aload_n 0, 1) := by decide +kernel
theorem dX3_bearsOtherMainKind_4 : decode cX3_bearsOtherMainKind 4 = .ok (.getfield 74, 3) := by decide +kernel
theorem dX3_bearsOtherMainKind_7 : decode cX3_bearsOtherMainKind 7 = .ok (.if_icmp .ge 41, 3) := by decide +kernel
theorem dX3_bearsOtherMainKind_10 : decode cX3_bearsOtherMainKind 10 = .ok (.aload_n 0, 1) := by decide +kernel
theorem dX3_bearsOtherMainKind_11 : decode cX3_bearsOtherMainKind 11 = .ok (.iload_n 3, 1) := by decide +kernel
theorem dX3_bearsOtherMainKind_12 : decode cX3_bearsOtherMainKind 12 = .ok (.invokevirtual 86, 3) := by decide +kernel
theorem dX3_bearsOtherMainKind_15 : decode cX3_bearsOtherMainKind 15 = .ok (.astore 4, 2) := by decide +kernel
theorem dX3_bearsOtherMainKind_17 : decode cX3_bearsOtherMainKind 17 = .ok (.aload 4, 2) := by decide +kernel
theorem dX3_bearsOtherMainKind_19 : decode cX3_bearsOtherMainKind 19 = .ok (.ifnull 23, 3) := by decide +kernel
theorem dX3_bearsOtherMainKind_22 : decode cX3_bearsOtherMainKind 22 = .ok (.aload 4, 2) := by decide +kernel
theorem dX3_bearsOtherMainKind_24 : decode cX3_bearsOtherMainKind 24 = .ok (.iload_n 1, 1) := by decide +kernel
theorem dX3_bearsOtherMainKind_25 : decode cX3_bearsOtherMainKind 25 = .ok (.invokevirtual 247, 3) := by decide +kernel
theorem dX3_bearsOtherMainKind_28 : decode cX3_bearsOtherMainKind 28 = .ok (.ifCond .eq 14, 3) := by decide +kernel
theorem dX3_bearsOtherMainKind_31 : decode cX3_bearsOtherMainKind 31 = .ok (.aload 4, 2) := by decide +kernel
theorem dX3_bearsOtherMainKind_33 : decode cX3_bearsOtherMainKind 33 = .ok (.invokevirtual 177, 3) := by decide +kernel
theorem dX3_bearsOtherMainKind_36 : decode cX3_bearsOtherMainKind 36 = .ok (.iload_n 2, 1) := by decide +kernel
theorem dX3_bearsOtherMainKind_37 : decode cX3_bearsOtherMainKind 37 = .ok (.if_icmp .eq 5, 3) := by decide +kernel
theorem dX3_bearsOtherMainKind_40 : decode cX3_bearsOtherMainKind 40 = .ok (.iconst 1, 1) := by decide +kernel
theorem dX3_bearsOtherMainKind_41 : decode cX3_bearsOtherMainKind 41 = .ok (.ireturn, 1) := by decide +kernel
theorem dX3_bearsOtherMainKind_42 : decode cX3_bearsOtherMainKind 42 = .ok (.iinc 3 1, 3) := by decide +kernel
theorem dX3_bearsOtherMainKind_45 : decode cX3_bearsOtherMainKind 45 = .ok (.goto (-43), 3) := by decide +kernel
theorem dX3_bearsOtherMainKind_48 : decode cX3_bearsOtherMainKind 48 = .ok (.iconst 0, 1) := by decide +kernel
theorem dX3_bearsOtherMainKind_49 : decode cX3_bearsOtherMainKind 49 = .ok (.ireturn, 1) := by decide +kernel
theorem dX3_gramsCloseTo_0 : decode cX3_gramsCloseTo 0 = .ok (.lconst 0, 1) := by decide +kernel
theorem dX3_gramsCloseTo_1 : decode cX3_gramsCloseTo 1 = .ok (.lstore_n 2, 1) := by decide +kernel
theorem dX3_gramsCloseTo_2 : decode cX3_gramsCloseTo 2 = .ok (.iconst 0, 1) := by decide +kernel
theorem dX3_gramsCloseTo_3 : decode cX3_gramsCloseTo 3 = .ok (.istore 4, 2) := by decide +kernel
theorem dX3_gramsCloseTo_5 : decode cX3_gramsCloseTo 5 = .ok (.iload 4, 2) := by decide +kernel
theorem dX3_gramsCloseTo_7 : decode cX3_gramsCloseTo 7 = .ok (.aload_n 0, 1) := by decide +kernel
theorem dX3_gramsCloseTo_8 : decode cX3_gramsCloseTo 8 = .ok (.getfield 74, 3) := by decide +kernel
theorem dX3_gramsCloseTo_11 : decode cX3_gramsCloseTo 11 = .ok (.if_icmp .ge 52, 3) := by decide +kernel
theorem dX3_gramsCloseTo_14 : decode cX3_gramsCloseTo 14 = .ok (.aload_n 0, 1) := by decide +kernel
theorem dX3_gramsCloseTo_15 : decode cX3_gramsCloseTo 15 = .ok (.iload 4, 2) := by decide +kernel
theorem dX3_gramsCloseTo_17 : decode cX3_gramsCloseTo 17 = .ok (.invokevirtual 86, 3) := by decide +kernel
theorem dX3_gramsCloseTo_20 : decode cX3_gramsCloseTo 20 = .ok (.astore 5, 2) := by decide +kernel
theorem dX3_gramsCloseTo_22 : decode cX3_gramsCloseTo 22 = .ok (.aload 5, 2) := by decide +kernel
theorem dX3_gramsCloseTo_24 : decode cX3_gramsCloseTo 24 = .ok (.ifnull 33, 3) := by decide +kernel
theorem dX3_gramsCloseTo_27 : decode cX3_gramsCloseTo 27 = .ok (.aload 5, 2) := by decide +kernel
theorem dX3_gramsCloseTo_29 : decode cX3_gramsCloseTo 29 = .ok (.getfield 164, 3) := by decide +kernel
theorem dX3_gramsCloseTo_32 : decode cX3_gramsCloseTo 32 = .ok (.iconst 1, 1) := by decide +kernel
theorem dX3_gramsCloseTo_33 : decode cX3_gramsCloseTo 33 = .ok (.if_icmp .ne 24, 3) := by decide +kernel
theorem dX3_gramsCloseTo_36 : decode cX3_gramsCloseTo 36 = .ok (.aload_n 0, 1) := by decide +kernel
theorem dX3_gramsCloseTo_37 : decode cX3_gramsCloseTo 37 = .ok (.aload 5, 2) := by decide +kernel
theorem dX3_gramsCloseTo_39 : decode cX3_gramsCloseTo 39 = .ok (.getfield 188, 3) := by decide +kernel
theorem dX3_gramsCloseTo_42 : decode cX3_gramsCloseTo 42 = .ok (.iload_n 1, 1) := by decide +kernel
theorem dX3_gramsCloseTo_43 : decode cX3_gramsCloseTo 43 = .ok (.invokevirtual 250, 3) := by decide +kernel
theorem dX3_gramsCloseTo_46 : decode cX3_gramsCloseTo 46 = .ok (.ifCond .eq 11, 3) := by decide +kernel
theorem dX3_gramsCloseTo_49 : decode cX3_gramsCloseTo 49 = .ok (.lload_n 2, 1) := by decide +kernel
theorem dX3_gramsCloseTo_50 : decode cX3_gramsCloseTo 50 = .ok (.aload 5, 2) := by decide +kernel
theorem dX3_gramsCloseTo_52 : decode cX3_gramsCloseTo 52 = .ok (.invokevirtual 96, 3) := by decide +kernel
theorem dX3_gramsCloseTo_55 : decode cX3_gramsCloseTo 55 = .ok (.ladd, 1) := by decide +kernel
theorem dX3_gramsCloseTo_56 : decode cX3_gramsCloseTo 56 = .ok (.lstore_n 2, 1) := by decide +kernel
theorem dX3_gramsCloseTo_57 : decode cX3_gramsCloseTo 57 = .ok (.iinc 4 1, 3) := by decide +kernel
theorem dX3_gramsCloseTo_60 : decode cX3_gramsCloseTo 60 = .ok (.goto (-55), 3) := by decide +kernel
theorem dX3_gramsCloseTo_63 : decode cX3_gramsCloseTo 63 = .ok (.lload_n 2, 1) := by decide +kernel
theorem dX3_gramsCloseTo_64 : decode cX3_gramsCloseTo 64 = .ok (.lreturn, 1) := by decide +kernel
theorem dX3_areClose_0 : decode cX3_areClose 0 = .ok (.iload_n 1, 1) := by decide +kernel
theorem dX3_areClose_1 : decode cX3_areClose 1 = .ok (.iload_n 2, 1) := by decide +kernel
theorem dX3_areClose_2 : decode cX3_areClose 2 = .ok (.invokestatic 253, 3) := by decide +kernel
theorem dX3_areClose_5 : decode cX3_areClose 5 = .ok (.istore_n 3, 1) := by decide +kernel
theorem dX3_areClose_6 : decode cX3_areClose 6 = .ok (.iload_n 1, 1) := by decide +kernel
theorem dX3_areClose_7 : decode cX3_areClose 7 = .ok (.iload_n 2, 1) := by decide +kernel
theorem dX3_areClose_8 : decode cX3_areClose 8 = .ok (.invokestatic 259, 3) := by decide +kernel
theorem dX3_areClose_11 : decode cX3_areClose 11 = .ok (.istore 4, 2) := by decide +kernel
theorem dX3_areClose_13 : decode cX3_areClose 13 = .ok (.iload_n 3, 1) := by decide +kernel
theorem dX3_areClose_14 : decode cX3_areClose 14 = .ok (.iload 4, 2) := by decide +kernel
theorem dX3_areClose_16 : decode cX3_areClose 16 = .ok (.if_icmp .ne 5, 3) := by decide +kernel
theorem dX3_areClose_19 : decode cX3_areClose 19 = .ok (.iconst 1, 1) := by decide +kernel
theorem dX3_areClose_20 : decode cX3_areClose 20 = .ok (.ireturn, 1) := by decide +kernel
theorem dX3_areClose_21 : decode cX3_areClose 21 = .ok (.aload_n 0, 1) := by decide +kernel
theorem dX3_areClose_22 : decode cX3_areClose 22 = .ok (.iload 4, 2) := by decide +kernel
theorem dX3_areClose_24 : decode cX3_areClose 24 = .ok (.invokevirtual 160, 3) := by decide +kernel
theorem dX3_areClose_27 : decode cX3_areClose 27 = .ok (.astore 5, 2) := by decide +kernel
theorem dX3_areClose_29 : decode cX3_areClose 29 = .ok (.aload 5, 2) := by decide +kernel
theorem dX3_areClose_31 : decode cX3_areClose 31 = .ok (.ifnull 19, 3) := by decide +kernel
theorem dX3_areClose_34 : decode cX3_areClose 34 = .ok (.iload 4, 2) := by decide +kernel
theorem dX3_areClose_36 : decode cX3_areClose 36 = .ok (.iload_n 3, 1) := by decide +kernel
theorem dX3_areClose_37 : decode cX3_areClose 37 = .ok (.isub, 1) := by decide +kernel
theorem dX3_areClose_38 : decode cX3_areClose 38 = .ok (.aload 5, 2) := by decide +kernel
theorem dX3_areClose_40 : decode cX3_areClose 40 = .ok (.getfield 262, 3) := by decide +kernel
theorem dX3_areClose_43 : decode cX3_areClose 43 = .ok (.if_icmp .gt 7, 3) := by decide +kernel
theorem dX3_areClose_46 : decode cX3_areClose 46 = .ok (.iconst 1, 1) := by decide +kernel
theorem dX3_areClose_47 : decode cX3_areClose 47 = .ok (.goto 4, 3) := by decide +kernel
theorem dX3_areClose_50 : decode cX3_areClose 50 = .ok (.iconst 0, 1) := by decide +kernel
theorem dX3_areClose_51 : decode cX3_areClose 51 = .ok (.ireturn, 1) := by decide +kernel
theorem dX3_writeLabel_0 : decode cX3_writeLabel 0 = .ok (.aload_n 0, 1) := by decide +kernel
theorem dX3_writeLabel_1 : decode cX3_writeLabel 1 = .ok (.getfield 48, 3) := by decide +kernel
theorem dX3_writeLabel_4 : decode cX3_writeLabel 4 = .ok (.iconst 0, 1) := by decide +kernel
theorem dX3_writeLabel_5 : decode cX3_writeLabel 5 = .ok (.invokevirtual 265, 3) := by decide +kernel
theorem dX3_writeLabel_8 : decode cX3_writeLabel 8 = .ok (.aload_n 0, 1) := by decide +kernel
theorem dX3_writeLabel_9 : decode cX3_writeLabel 9 = .ok (.getfield 48, 3) := by decide +kernel
theorem dX3_writeLabel_12 : decode cX3_writeLabel 12 = .ok (.bipush 66, 2) := by decide +kernel
theorem dX3_writeLabel_14 : decode cX3_writeLabel 14 = .ok (.invokevirtual 269, 3) := by decide +kernel
theorem dX3_writeLabel_17 : decode cX3_writeLabel 17 = .ok (.pop, 1) := by decide +kernel
theorem dX3_writeLabel_18 : decode cX3_writeLabel 18 = .ok (.aload_n 0, 1) := by decide +kernel
theorem dX3_writeLabel_19 : decode cX3_writeLabel 19 = .ok (.getfield 48, 3) := by decide +kernel
theorem dX3_writeLabel_22 : decode cX3_writeLabel 22 = .ok (.iload_n 1, 1) := by decide +kernel
theorem dX3_writeLabel_23 : decode cX3_writeLabel 23 = .ok (.invokevirtual 273, 3) := by decide +kernel
theorem dX3_writeLabel_26 : decode cX3_writeLabel 26 = .ok (.pop, 1) := by decide +kernel
theorem dX3_writeLabel_27 : decode cX3_writeLabel 27 = .ok (.aload_n 0, 1) := by decide +kernel
theorem dX3_writeLabel_28 : decode cX3_writeLabel 28 = .ok (.getfield 48, 3) := by decide +kernel
theorem dX3_writeLabel_31 : decode cX3_writeLabel 31 = .ok (.bipush 32, 2) := by decide +kernel
theorem dX3_writeLabel_33 : decode cX3_writeLabel 33 = .ok (.invokevirtual 269, 3) := by decide +kernel
theorem dX3_writeLabel_36 : decode cX3_writeLabel 36 = .ok (.pop, 1) := by decide +kernel
theorem dX3_writeLabel_37 : decode cX3_writeLabel 37 = .ok (.aload_n 0, 1) := by decide +kernel
theorem dX3_writeLabel_38 : decode cX3_writeLabel 38 = .ok (.getfield 48, 3) := by decide +kernel
theorem dX3_writeLabel_41 : decode cX3_writeLabel 41 = .ok (.aload_n 2, 1) := by decide +kernel
theorem dX3_writeLabel_42 : decode cX3_writeLabel 42 = .ok (.invokevirtual 96, 3) := by decide +kernel
theorem dX3_writeLabel_45 : decode cX3_writeLabel 45 = .ok (.l2i, 1) := by decide +kernel
theorem dX3_writeLabel_46 : decode cX3_writeLabel 46 = .ok (.invokevirtual 273, 3) := by decide +kernel
theorem dX3_writeLabel_49 : decode cX3_writeLabel 49 = .ok (.pop, 1) := by decide +kernel
theorem dX3_writeLabel_50 : decode cX3_writeLabel 50 = .ok (.aload_n 0, 1) := by decide +kernel
theorem dX3_writeLabel_51 : decode cX3_writeLabel 51 = .ok (.getfield 48, 3) := by decide +kernel
theorem dX3_writeLabel_54 : decode cX3_writeLabel 54 = .ok (.bipush 32, 2) := by decide +kernel
theorem dX3_writeLabel_56 : decode cX3_writeLabel 56 = .ok (.invokevirtual 269, 3) := by decide +kernel
theorem dX3_writeLabel_59 : decode cX3_writeLabel 59 = .ok (.pop, 1) := by decide +kernel
theorem dX3_writeLabel_60 : decode cX3_writeLabel 60 = .ok (.aload_n 0, 1) := by decide +kernel
theorem dX3_writeLabel_61 : decode cX3_writeLabel 61 = .ok (.getfield 48, 3) := by decide +kernel
theorem dX3_writeLabel_64 : decode cX3_writeLabel 64 = .ok (.aload_n 2, 1) := by decide +kernel
theorem dX3_writeLabel_65 : decode cX3_writeLabel 65 = .ok (.invokevirtual 177, 3) := by decide +kernel
theorem dX3_writeLabel_68 : decode cX3_writeLabel 68 = .ok (.invokevirtual 273, 3) := by decide +kernel
theorem dX3_writeLabel_71 : decode cX3_writeLabel 71 = .ok (.pop, 1) := by decide +kernel
theorem dX3_writeLabel_72 : decode cX3_writeLabel 72 = .ok (.return_, 1) := by decide +kernel
theorem dX4_init_0 : decode cX4_init 0 = .ok (.aload_n 0, 1) := by decide +kernel
theorem dX4_init_1 : decode cX4_init 1 = .ok (.invokespecial 1, 3) := by decide +kernel
theorem dX4_init_4 : decode cX4_init 4 = .ok (.aload_n 0, 1) := by decide +kernel
theorem dX4_init_5 : decode cX4_init 5 = .ok (.sipush 200, 3) := by decide +kernel
theorem dX4_init_8 : decode cX4_init 8 = .ok (.newarray .long, 2) := by decide +kernel
theorem dX4_init_10 : decode cX4_init 10 = .ok (.putfield 7, 3) := by decide +kernel
theorem dX4_init_13 : decode cX4_init 13 = .ok (.aload_n 0, 1) := by decide +kernel
theorem dX4_init_14 : decode cX4_init 14 = .ok (.sipush 200, 3) := by decide +kernel
theorem dX4_init_17 : decode cX4_init 17 = .ok (.newarray .int, 2) := by decide +kernel
theorem dX4_init_19 : decode cX4_init 19 = .ok (.putfield 13, 3) := by decide +kernel
theorem dX4_init_22 : decode cX4_init 22 = .ok (.aload_n 0, 1) := by decide +kernel
theorem dX4_init_23 : decode cX4_init 23 = .ok (.sipush 200, 3) := by decide +kernel
theorem dX4_init_26 : decode cX4_init 26 = .ok (.newarray .long, 2) := by decide +kernel
theorem dX4_init_28 : decode cX4_init 28 = .ok (.putfield 17, 3) := by decide +kernel
theorem dX4_init_31 : decode cX4_init 31 = .ok (.aload_n 0, 1) := by decide +kernel
theorem dX4_init_32 : decode cX4_init 32 = .ok (.sipush 200, 3) := by decide +kernel
theorem dX4_init_35 : decode cX4_init 35 = .ok (.newarray .int, 2) := by decide +kernel
theorem dX4_init_37 : decode cX4_init 37 = .ok (.putfield 20, 3) := by decide +kernel
theorem dX4_init_40 : decode cX4_init 40 = .ok (.aload_n 0, 1) := by decide +kernel
theorem dX4_init_41 : decode cX4_init 41 = .ok (.bipush 12, 2) := by decide +kernel
theorem dX4_init_43 : decode cX4_init 43 = .ok (.newarray .int, 2) := by decide +kernel
theorem dX4_init_45 : decode cX4_init 45 = .ok (.putfield 23, 3) := by decide +kernel
theorem dX4_init_48 : decode cX4_init 48 = .ok (.aload_n 0, 1) := by decide +kernel
theorem dX4_init_49 : decode cX4_init 49 = .ok (.bipush 12, 2) := by decide +kernel
theorem dX4_init_51 : decode cX4_init 51 = .ok (.newarray .double, 2) := by decide +kernel
theorem dX4_init_53 : decode cX4_init 53 = .ok (.putfield 26, 3) := by decide +kernel
theorem dX4_init_56 : decode cX4_init 56 = .ok (.aload_n 0, 1) := by decide +kernel
theorem dX4_init_57 : decode cX4_init 57 = .ok (.bipush 12, 2) := by decide +kernel
theorem dX4_init_59 : decode cX4_init 59 = .ok (.newarray .int, 2) := by decide +kernel
theorem dX4_init_61 : decode cX4_init 61 = .ok (.putfield 30, 3) := by decide +kernel
theorem dX4_init_64 : decode cX4_init 64 = .ok (.aload_n 0, 1) := by decide +kernel
theorem dX4_init_65 : decode cX4_init 65 = .ok (.bipush 12, 2) := by decide +kernel
theorem dX4_init_67 : decode cX4_init 67 = .ok (.newarray .int, 2) := by decide +kernel
theorem dX4_init_69 : decode cX4_init 69 = .ok (.putfield 33, 3) := by decide +kernel
theorem dX4_init_72 : decode cX4_init 72 = .ok (.aload_n 0, 1) := by decide +kernel
theorem dX4_init_73 : decode cX4_init 73 = .ok (.bipush 12, 2) := by decide +kernel
theorem dX4_init_75 : decode cX4_init 75 = .ok (.newarray .int, 2) := by decide +kernel
theorem dX4_init_77 : decode cX4_init 77 = .ok (.putfield 36, 3) := by decide +kernel
theorem dX4_init_80 : decode cX4_init 80 = .ok (.aload_n 0, 1) := by decide +kernel
theorem dX4_init_81 : decode cX4_init 81 = .ok (.bipush 12, 2) := by decide +kernel
theorem dX4_init_83 : decode cX4_init 83 = .ok (.newarray .int, 2) := by decide +kernel
theorem dX4_init_85 : decode cX4_init 85 = .ok (.putfield 39, 3) := by decide +kernel
theorem dX4_init_88 : decode cX4_init 88 = .ok (.aload_n 0, 1) := by decide +kernel
theorem dX4_init_89 : decode cX4_init 89 = .ok (.bipush 12, 2) := by decide +kernel
theorem dX4_init_91 : decode cX4_init 91 = .ok (.newarray .int, 2) := by decide +kernel
theorem dX4_init_93 : decode cX4_init 93 = .ok (.putfield 42, 3) := by decide +kernel
theorem dX4_init_96 : decode cX4_init 96 = .ok (.aload_n 0, 1) := by decide +kernel
theorem dX4_init_97 : decode cX4_init 97 = .ok (.bipush 12, 2) := by decide +kernel
theorem dX4_init_99 : decode cX4_init 99 = .ok (.newarray .int, 2) := by decide +kernel
theorem dX4_init_101 : decode cX4_init 101 = .ok (.putfield 45, 3) := by decide +kernel
theorem dX4_init_104 : decode cX4_init 104 = .ok (.aload_n 0, 1) := by decide +kernel
theorem dX4_init_105 : decode cX4_init 105 = .ok (.bipush 6, 2) := by decide +kernel
theorem dX4_init_107 : decode cX4_init 107 = .ok (.newarray .double, 2) := by decide +kernel
theorem dX4_init_109 : decode cX4_init 109 = .ok (.putfield 48, 3) := by decide +kernel
theorem dX4_init_112 : decode cX4_init 112 = .ok (.aload_n 0, 1) := by decide +kernel
theorem dX4_init_113 : decode cX4_init 113 = .ok (.bipush 6, 2) := by decide +kernel
theorem dX4_init_115 : decode cX4_init 115 = .ok (.newarray .double, 2) := by decide +kernel
theorem dX4_init_117 : decode cX4_init 117 = .ok (.putfield 51, 3) := by decide +kernel
theorem dX4_init_120 : decode cX4_init 120 = .ok (.aload_n 0, 1) := by decide +kernel
theorem dX4_init_121 : decode cX4_init 121 = .ok (.iconst 1, 1) := by decide +kernel
theorem dX4_init_122 : decode cX4_init 122 = .ok (.putfield 54, 3) := by decide +kernel
theorem dX4_init_125 : decode cX4_init 125 = .ok (.aload_n 0, 1) := by decide +kernel
theorem dX4_init_126 : decode cX4_init 126 = .ok (.iconst 4, 1) := by decide +kernel
theorem dX4_init_127 : decode cX4_init 127 = .ok (.newarray .int, 2) := by decide +kernel
theorem dX4_init_129 : decode cX4_init 129 = .ok (.putfield 58, 3) := by decide +kernel
theorem dX4_init_132 : decode cX4_init 132 = .ok (.aload_n 0, 1) := by decide +kernel
theorem dX4_init_133 : decode cX4_init 133 = .ok (.iconst 4, 1) := by decide +kernel
theorem dX4_init_134 : decode cX4_init 134 = .ok (.newarray .int, 2) := by decide +kernel
theorem dX4_init_136 : decode cX4_init 136 = .ok (.putfield 61, 3) := by decide +kernel
theorem dX4_init_139 : decode cX4_init 139 = .ok (.aload_n 0, 1) := by decide +kernel
theorem dX4_init_140 : decode cX4_init 140 = .ok (.iconst 3, 1) := by decide +kernel
theorem dX4_init_141 : decode cX4_init 141 = .ok (.newarray .long, 2) := by decide +kernel
theorem dX4_init_143 : decode cX4_init 143 = .ok (.putfield 64, 3) := by decide +kernel
theorem dX4_init_146 : decode cX4_init 146 = .ok (.aload_n 0, 1) := by decide +kernel
theorem dX4_init_147 : decode cX4_init 147 = .ok (.iconst 3, 1) := by decide +kernel
theorem dX4_init_148 : decode cX4_init 148 = .ok (.newarray .long, 2) := by decide +kernel
theorem dX4_init_150 : decode cX4_init 150 = .ok (.putfield 67, 3) := by decide +kernel
theorem dX4_init_153 : decode cX4_init 153 = .ok (.aload_n 0, 1) := by decide +kernel
theorem dX4_init_154 : decode cX4_init 154 = .ok (.bipush 24, 2) := by decide +kernel
theorem dX4_init_156 : decode cX4_init 156 = .ok (.newarray .int, 2) := by decide +kernel
theorem dX4_init_158 : decode cX4_init 158 = .ok (.putfield 70, 3) := by decide +kernel
theorem dX4_init_161 : decode cX4_init 161 = .ok (.aload_n 0, 1) := by decide +kernel
theorem dX4_init_162 : decode cX4_init 162 = .ok (.iconst 3, 1) := by decide +kernel
theorem dX4_init_163 : decode cX4_init 163 = .ok (.newarray .int, 2) := by decide +kernel
theorem dX4_init_165 : decode cX4_init 165 = .ok (.putfield 73, 3) := by decide +kernel
theorem dX4_init_168 : decode cX4_init 168 = .ok (.return_, 1) := by decide +kernel
theorem dX4_isIn_0 : decode cX4_isIn 0 = .ok (.lload_n 0, 1) := by decide +kernel
theorem dX4_isIn_1 : decode cX4_isIn 1 = .ok (.lload_n 2, 1) := by decide +kernel
theorem dX4_isIn_2 : decode cX4_isIn 2 = .ok (.lcmp, 1) := by decide +kernel
theorem dX4_isIn_3 : decode cX4_isIn 3 = .ok (.ifCond .lt 14, 3) := by decide +kernel
theorem dX4_isIn_6 : decode cX4_isIn 6 = .ok (.lload_n 0, 1) := by decide +kernel
theorem dX4_isIn_7 : decode cX4_isIn 7 = .ok (.lload 4, 2) := by decide +kernel
theorem dX4_isIn_9 : decode cX4_isIn 9 = .ok (.lcmp, 1) := by decide +kernel
theorem dX4_isIn_10 : decode cX4_isIn 10 = .ok (.ifCond .gt 7, 3) := by decide +kernel
theorem dX4_isIn_13 : decode cX4_isIn 13 = .ok (.iconst 1, 1) := by decide +kernel
theorem dX4_isIn_14 : decode cX4_isIn 14 = .ok (.goto 4, 3) := by decide +kernel
theorem dX4_isIn_17 : decode cX4_isIn 17 = .ok (.iconst 0, 1) := by decide +kernel
theorem dX4_isIn_18 : decode cX4_isIn 18 = .ok (.ireturn, 1) := by decide +kernel
theorem dX4_isWithin_0 : decode cX4_isWithin 0 = .ok (.dload_n 0, 1) := by decide +kernel
theorem dX4_isWithin_1 : decode cX4_isWithin 1 = .ok (.dload_n 2, 1) := by decide +kernel
theorem dX4_isWithin_2 : decode cX4_isWithin 2 = .ok (.dcmp .l, 1) := by decide +kernel
theorem dX4_isWithin_3 : decode cX4_isWithin 3 = .ok (.ifCond .lt 14, 3) := by decide +kernel
theorem dX4_isWithin_6 : decode cX4_isWithin 6 = .ok (.dload_n 0, 1) := by decide +kernel
theorem dX4_isWithin_7 : decode cX4_isWithin 7 = .ok (.dload 4, 2) := by decide +kernel
theorem dX4_isWithin_9 : decode cX4_isWithin 9 = .ok (.dcmp .g, 1) := by decide +kernel
theorem dX4_isWithin_10 : decode cX4_isWithin 10 = .ok (.ifCond .gt 7, 3) := by decide +kernel
theorem dX4_isWithin_13 : decode cX4_isWithin 13 = .ok (.iconst 1, 1) := by decide +kernel
theorem dX4_isWithin_14 : decode cX4_isWithin 14 = .ok (.goto 4, 3) := by decide +kernel
theorem dX4_isWithin_17 : decode cX4_isWithin 17 = .ok (.iconst 0, 1) := by decide +kernel
theorem dX4_isWithin_18 : decode cX4_isWithin 18 = .ok (.ireturn, 1) := by decide +kernel
theorem dX4_isBale_0 : decode cX4_isBale 0 = .ok (.iload_n 1, 1) := by decide +kernel
theorem dX4_isBale_1 : decode cX4_isBale 1 = .ok (.ifCond .lt 15, 3) := by decide +kernel
theorem dX4_isBale_4 : decode cX4_isBale 4 = .ok (.iload_n 1, 1) := by decide +kernel
theorem dX4_isBale_5 : decode cX4_isBale 5 = .ok (.aload_n 0, 1) := by decide +kernel
theorem dX4_isBale_6 : decode cX4_isBale 6 = .ok (.getfield 76, 3) := by decide +kernel
theorem dX4_isBale_9 : decode cX4_isBale 9 = .ok (.if_icmp .ge 7, 3) := by decide +kernel
theorem dX4_isBale_12 : decode cX4_isBale 12 = .ok (.iconst 1, 1) := by decide +kernel
theorem dX4_isBale_13 : decode cX4_isBale 13 = .ok (.goto 4, 3) := by decide +kernel
theorem dX4_isBale_16 : decode cX4_isBale 16 = .ok (.iconst 0, 1) := by decide +kernel
theorem dX4_isBale_17 : decode cX4_isBale 17 = .ok (.ireturn, 1) := by decide +kernel
theorem dX4_isKind_0 : decode cX4_isKind 0 = .ok (.iload_n 0, 1) := by decide +kernel
theorem dX4_isKind_1 : decode cX4_isKind 1 = .ok (.ifCond .lt 12, 3) := by decide +kernel
theorem dX4_isKind_4 : decode cX4_isKind 4 = .ok (.iload_n 0, 1) := by decide +kernel
theorem dX4_isKind_5 : decode cX4_isKind 5 = .ok (.iconst 4, 1) := by decide +kernel
theorem dX4_isKind_6 : decode cX4_isKind 6 = .ok (.if_icmp .ge 7, 3) := by decide +kernel
theorem dX4_isKind_9 : decode cX4_isKind 9 = .ok (.iconst 1, 1) := by decide +kernel
theorem dX4_isKind_10 : decode cX4_isKind 10 = .ok (.goto 4, 3) := by decide +kernel
theorem dX4_isKind_13 : decode cX4_isKind 13 = .ok (.iconst 0, 1) := by decide +kernel
theorem dX4_isKind_14 : decode cX4_isKind 14 = .ok (.ireturn, 1) := by decide +kernel
theorem dX4_feed_0 : decode cX4_feed 0 = .ok (.aload_n 0, 1) := by decide +kernel
theorem dX4_feed_1 : decode cX4_feed 1 = .ok (.getfield 79, 3) := by decide +kernel
theorem dX4_feed_4 : decode cX4_feed 4 = .ok (.sipush 200, 3) := by decide +kernel
theorem dX4_feed_7 : decode cX4_feed 7 = .ok (.if_icmp .eq 56, 3) := by decide +kernel
theorem dX4_feed_10 : decode cX4_feed 10 = .ok (.iload_n 3, 1) := by decide +kernel
theorem dX4_feed_11 : decode cX4_feed 11 = .ok (.invokestatic 82, 3) := by decide +kernel
theorem dX4_feed_14 : decode cX4_feed 14 = .ok (.ifCond .eq 49, 3) := by decide +kernel
theorem dX4_feed_17 : decode cX4_feed 17 = .ok (.lload_n 1, 1) := by decide +kernel
theorem dX4_feed_18 : decode cX4_feed 18 = .ok (.lconst 0, 1) := by decide +kernel
theorem dX4_feed_19 : decode cX4_feed 19 = .ok (.ldc2_w 86, 3) := by decide +kernel
theorem dX4_feed_22 : decode cX4_feed 22 = .ok (.invokestatic 88, 3) := by decide +kernel
theorem dX4_feed_25 : decode cX4_feed 25 = .ok (.ifCond .eq 38, 3) := by decide +kernel
theorem dX4_feed_28 : decode cX4_feed 28 = .ok (.lload 4, 2) := by decide +kernel
theorem dX4_feed_30 : decode cX4_feed 30 = .ok (.lconst 1, 1) := by decide +kernel
theorem dX4_feed_31 : decode cX4_feed 31 = .ok (.ldc2_w 92, 3) := by decide +kernel
theorem dX4_feed_34 : decode cX4_feed 34 = .ok (.invokestatic 88, 3) := by decide +kernel
theorem dX4_feed_37 : decode cX4_feed 37 = .ok (.ifCond .eq 26, 3) := by decide +kernel
theorem dX4_feed_40 : decode cX4_feed 40 = .ok (.aload_n 0, 1) := by decide +kernel
theorem dX4_feed_41 : decode cX4_feed 41 = .ok (.getfield 79, 3) := by decide +kernel
theorem dX4_feed_44 : decode cX4_feed 44 = .ok (.ifCond .le 21, 3) := by decide +kernel
theorem dX4_feed_47 : decode cX4_feed 47 = .ok (.lload_n 1, 1) := by decide +kernel
theorem dX4_feed_48 : decode cX4_feed 48 = .ok (.aload_n 0, 1) := by decide +kernel
theorem dX4_feed_49 : decode cX4_feed 49 = .ok (.getfield 7, 3) := by decide +kernel
theorem dX4_feed_52 : decode cX4_feed 52 = .ok (.aload_n 0, 1) := by decide +kernel
theorem dX4_feed_53 : decode cX4_feed 53 = .ok (.getfield 79, 3) := by decide +kernel
theorem dX4_feed_56 : decode cX4_feed 56 = .ok (.iconst 1, 1) := by decide +kernel
theorem dX4_feed_57 : decode cX4_feed 57 = .ok (.isub, 1) := by decide +kernel
theorem dX4_feed_58 : decode cX4_feed 58 = .ok (.laload, 1) := by decide +kernel
theorem dX4_feed_59 : decode cX4_feed 59 = .ok (.lcmp, 1) := by decide +kernel
theorem dX4_feed_60 : decode cX4_feed 60 = .ok (.ifCond .ge 5, 3) := by decide +kernel
theorem dX4_feed_63 : decode cX4_feed 63 = .ok (.iconst 0, 1) := by decide +kernel
theorem dX4_feed_64 : decode cX4_feed 64 = .ok (.ireturn, 1) := by decide +kernel
theorem dX4_feed_65 : decode cX4_feed 65 = .ok (.aload_n 0, 1) := by decide +kernel
theorem dX4_feed_66 : decode cX4_feed 66 = .ok (.getfield 7, 3) := by decide +kernel
theorem dX4_feed_69 : decode cX4_feed 69 = .ok (.aload_n 0, 1) := by decide +kernel
theorem dX4_feed_70 : decode cX4_feed 70 = .ok (.getfield 79, 3) := by decide +kernel
theorem dX4_feed_73 : decode cX4_feed 73 = .ok (.lload_n 1, 1) := by decide +kernel
theorem dX4_feed_74 : decode cX4_feed 74 = .ok (.lastore, 1) := by decide +kernel
theorem dX4_feed_75 : decode cX4_feed 75 = .ok (.aload_n 0, 1) := by decide +kernel
theorem dX4_feed_76 : decode cX4_feed 76 = .ok (.getfield 13, 3) := by decide +kernel
theorem dX4_feed_79 : decode cX4_feed 79 = .ok (.aload_n 0, 1) := by decide +kernel
theorem dX4_feed_80 : decode cX4_feed 80 = .ok (.getfield 79, 3) := by decide +kernel
theorem dX4_feed_83 : decode cX4_feed 83 = .ok (.iload_n 3, 1) := by decide +kernel
theorem dX4_feed_84 : decode cX4_feed 84 = .ok (.iastore, 1) := by decide +kernel
theorem dX4_feed_85 : decode cX4_feed 85 = .ok (.aload_n 0, 1) := by decide +kernel
theorem dX4_feed_86 : decode cX4_feed 86 = .ok (.getfield 17, 3) := by decide +kernel
theorem dX4_feed_89 : decode cX4_feed 89 = .ok (.aload_n 0, 1) := by decide +kernel
theorem dX4_feed_90 : decode cX4_feed 90 = .ok (.getfield 79, 3) := by decide +kernel
theorem dX4_feed_93 : decode cX4_feed 93 = .ok (.lload 4, 2) := by decide +kernel
theorem dX4_feed_95 : decode cX4_feed 95 = .ok (.lastore, 1) := by decide +kernel
theorem dX4_feed_96 : decode cX4_feed 96 = .ok (.aload_n 0, 1) := by decide +kernel
theorem dX4_feed_97 : decode cX4_feed 97 = .ok (.getfield 20, 3) := by decide +kernel
theorem dX4_feed_100 : decode cX4_feed 100 = .ok (.aload_n 0, 1) := by decide +kernel
theorem dX4_feed_101 : decode cX4_feed 101 = .ok (.getfield 79, 3) := by decide +kernel
theorem dX4_feed_104 : decode cX4_feed 104 = .ok (.iconst (-1), 1) := by decide +kernel
theorem dX4_feed_105 : decode cX4_feed 105 = .ok (.iastore, 1) := by decide +kernel
theorem dX4_feed_106 : decode cX4_feed 106 = .ok (.aload_n 0, 1) := by decide +kernel
theorem dX4_feed_107 : decode cX4_feed 107 = .ok (.dup, 1) := by decide +kernel
theorem dX4_feed_108 : decode cX4_feed 108 = .ok (.getfield 79, 3) := by decide +kernel
theorem dX4_feed_111 : decode cX4_feed 111 = .ok (.iconst 1, 1) := by decide +kernel
theorem dX4_feed_112 : decode cX4_feed 112 = .ok (.iadd, 1) := by decide +kernel
theorem dX4_feed_113 : decode cX4_feed 113 = .ok (.putfield 79, 3) := by decide +kernel
theorem dX4_feed_116 : decode cX4_feed 116 = .ok (.iconst 1, 1) := by decide +kernel
theorem dX4_feed_117 : decode cX4_feed 117 = .ok (.ireturn, 1) := by decide +kernel
theorem dX4_make_0 : decode cX4_make 0 = .ok (.aload_n 0, 1) := by decide +kernel
theorem dX4_make_1 : decode cX4_make 1 = .ok (.getfield 23, 3) := by decide +kernel
theorem dX4_make_4 : decode cX4_make 4 = .ok (.aload_n 0, 1) := by decide +kernel
theorem dX4_make_5 : decode cX4_make 5 = .ok (.getfield 76, 3) := by decide +kernel
theorem dX4_make_8 : decode cX4_make 8 = .ok (.iconst 0, 1) := by decide +kernel
theorem dX4_make_9 : decode cX4_make 9 = .ok (.iastore, 1) := by decide +kernel
theorem dX4_make_10 : decode cX4_make 10 = .ok (.aload_n 0, 1) := by decide +kernel
theorem dX4_make_11 : decode cX4_make 11 = .ok (.getfield 26, 3) := by decide +kernel
theorem dX4_make_14 : decode cX4_make 14 = .ok (.aload_n 0, 1) := by decide +kernel
theorem dX4_make_15 : decode cX4_make 15 = .ok (.getfield 76, 3) := by decide +kernel
theorem dX4_make_18 : decode cX4_make 18 = .ok (.ldc2_w 94, 3) := by decide +kernel
theorem dX4_make_21 : decode cX4_make 21 = .ok (.dastore, 1) := by decide +kernel
theorem dX4_make_22 : decode cX4_make 22 = .ok (.aload_n 0, 1) := by decide +kernel
theorem dX4_make_23 : decode cX4_make 23 = .ok (.getfield 42, 3) := by decide +kernel
theorem dX4_make_26 : decode cX4_make 26 = .ok (.aload_n 0, 1) := by decide +kernel
theorem dX4_make_27 : decode cX4_make 27 = .ok (.getfield 76, 3) := by decide +kernel
theorem dX4_make_30 : decode cX4_make 30 = .ok (.iconst (-1), 1) := by decide +kernel
theorem dX4_make_31 : decode cX4_make 31 = .ok (.iastore, 1) := by decide +kernel
theorem dX4_make_32 : decode cX4_make 32 = .ok (.aload_n 0, 1) := by decide +kernel
theorem dX4_make_33 : decode cX4_make 33 = .ok (.getfield 45, 3) := by decide +kernel
theorem dX4_make_36 : decode cX4_make 36 = .ok (.aload_n 0, 1) := by decide +kernel
theorem dX4_make_37 : decode cX4_make 37 = .ok (.getfield 76, 3) := by decide +kernel
theorem dX4_make_40 : decode cX4_make 40 = .ok (.iconst (-1), 1) := by decide +kernel
theorem dX4_make_41 : decode cX4_make 41 = .ok (.iastore, 1) := by decide +kernel
theorem dX4_make_42 : decode cX4_make 42 = .ok (.aload_n 0, 1) := by decide +kernel
theorem dX4_make_43 : decode cX4_make 43 = .ok (.getfield 36, 3) := by decide +kernel
theorem dX4_make_46 : decode cX4_make 46 = .ok (.aload_n 0, 1) := by decide +kernel
theorem dX4_make_47 : decode cX4_make 47 = .ok (.getfield 76, 3) := by decide +kernel
theorem dX4_make_50 : decode cX4_make 50 = .ok (.iconst (-1), 1) := by decide +kernel
theorem dX4_make_51 : decode cX4_make 51 = .ok (.iastore, 1) := by decide +kernel
theorem dX4_make_52 : decode cX4_make 52 = .ok (.aload_n 0, 1) := by decide +kernel
theorem dX4_make_53 : decode cX4_make 53 = .ok (.getfield 39, 3) := by decide +kernel
theorem dX4_make_56 : decode cX4_make 56 = .ok (.aload_n 0, 1) := by decide +kernel
theorem dX4_make_57 : decode cX4_make 57 = .ok (.getfield 76, 3) := by decide +kernel
theorem dX4_make_60 : decode cX4_make 60 = .ok (.iconst (-1), 1) := by decide +kernel
theorem dX4_make_61 : decode cX4_make 61 = .ok (.iastore, 1) := by decide +kernel
theorem dX4_make_62 : decode cX4_make 62 = .ok (.aload_n 0, 1) := by decide +kernel
theorem dX4_make_63 : decode cX4_make 63 = .ok (.dup, 1) := by decide +kernel
theorem dX4_make_64 : decode cX4_make 64 = .ok (.getfield 76, 3) := by decide +kernel
theorem dX4_make_67 : decode cX4_make 67 = .ok (.iconst 1, 1) := by decide +kernel
theorem dX4_make_68 : decode cX4_make 68 = .ok (.iadd, 1) := by decide +kernel
theorem dX4_make_69 : decode cX4_make 69 = .ok (.putfield 76, 3) := by decide +kernel
theorem dX4_make_72 : decode cX4_make 72 = .ok (.aload_n 0, 1) := by decide +kernel
theorem dX4_make_73 : decode cX4_make 73 = .ok (.getfield 76, 3) := by decide +kernel
theorem dX4_make_76 : decode cX4_make 76 = .ok (.iconst 1, 1) := by decide +kernel
theorem dX4_make_77 : decode cX4_make 77 = .ok (.isub, 1) := by decide +kernel
theorem dX4_make_78 : decode cX4_make 78 = .ok (.ireturn, 1) := by decide +kernel
theorem dX4_bale_0 : decode cX4_bale 0 = .ok (.iconst 0, 1) := by decide +kernel
theorem dX4_bale_1 : decode cX4_bale 1 = .ok (.istore_n 3, 1) := by decide +kernel
theorem dX4_bale_2 : decode cX4_bale 2 = .ok (.iconst 0, 1) := by decide +kernel
theorem dX4_bale_3 : decode cX4_bale 3 = .ok (.istore 4, 2) := by decide +kernel
theorem dX4_bale_5 : decode cX4_bale 5 = .ok (.iload 4, 2) := by decide +kernel
theorem dX4_bale_7 : decode cX4_bale 7 = .ok (.aload_n 0, 1) := by decide +kernel
theorem dX4_bale_8 : decode cX4_bale 8 = .ok (.getfield 79, 3) := by decide +kernel
theorem dX4_bale_11 : decode cX4_bale 11 = .ok (.if_icmp .ge 41, 3) := by decide +kernel
theorem dX4_bale_14 : decode cX4_bale 14 = .ok (.iload_n 3, 1) := by decide +kernel
theorem dX4_bale_15 : decode cX4_bale 15 = .ok (.ifCond .ne 25, 3) := by decide +kernel
theorem dX4_bale_18 : decode cX4_bale 18 = .ok (.aload_n 0, 1) := by decide +kernel
theorem dX4_bale_19 : decode cX4_bale 19 = .ok (.getfield 20, 3) := by decide +kernel
theorem dX4_bale_22 : decode cX4_bale 22 = .ok (.iload 4, 2) := by decide +kernel
theorem dX4_bale_24 : decode cX4_bale 24 = .ok (.iaload, 1) := by decide +kernel
theorem dX4_bale_25 : decode cX4_bale 25 = .ok (.ifCond .ge 19, 3) := by decide +kernel
theorem dX4_bale_28 : decode cX4_bale 28 = .ok (.aload_n 0, 1) := by decide +kernel
theorem dX4_bale_29 : decode cX4_bale 29 = .ok (.getfield 7, 3) := by decide +kernel
theorem dX4_bale_32 : decode cX4_bale 32 = .ok (.iload 4, 2) := by decide +kernel
theorem dX4_bale_34 : decode cX4_bale 34 = .ok (.laload, 1) := by decide +kernel
theorem dX4_bale_35 : decode cX4_bale 35 = .ok (.lload_n 1, 1) := by decide +kernel
theorem dX4_bale_36 : decode cX4_bale 36 = .ok (.lcmp, 1) := by decide +kernel
theorem dX4_bale_37 : decode cX4_bale 37 = .ok (.ifCond .gt 7, 3) := by decide +kernel
theorem dX4_bale_40 : decode cX4_bale 40 = .ok (.iconst 1, 1) := by decide +kernel
theorem dX4_bale_41 : decode cX4_bale 41 = .ok (.goto 4, 3) := by decide +kernel
theorem dX4_bale_44 : decode cX4_bale 44 = .ok (.iconst 0, 1) := by decide +kernel
theorem dX4_bale_45 : decode cX4_bale 45 = .ok (.istore_n 3, 1) := by decide +kernel
theorem dX4_bale_46 : decode cX4_bale 46 = .ok (.iinc 4 1, 3) := by decide +kernel
theorem dX4_bale_49 : decode cX4_bale 49 = .ok (.goto (-44), 3) := by decide +kernel
theorem dX4_bale_52 : decode cX4_bale 52 = .ok (.iload_n 3, 1) := by decide +kernel
theorem dX4_bale_53 : decode cX4_bale 53 = .ok (.ifCond .eq 12, 3) := by decide +kernel
theorem dX4_bale_56 : decode cX4_bale 56 = .ok (.aload_n 0, 1) := by decide +kernel
theorem dX4_bale_57 : decode cX4_bale 57 = .ok (.getfield 76, 3) := by decide +kernel
theorem dX4_bale_60 : decode cX4_bale 60 = .ok (.bipush 12, 2) := by decide +kernel
theorem dX4_bale_62 : decode cX4_bale 62 = .ok (.if_icmp .ne 5, 3) := by decide +kernel
theorem dX4_bale_65 : decode cX4_bale 65 = .ok (.iconst (-1), 1) := by decide +kernel
theorem dX4_bale_66 : decode cX4_bale 66 = .ok (.ireturn, 1) := by decide +kernel
theorem dX4_bale_67 : decode cX4_bale 67 = .ok (.iconst 0, 1) := by decide +kernel
theorem dX4_bale_68 : decode cX4_bale 68 = .ok (.istore 4, 2) := by decide +kernel
theorem dX4_bale_70 : decode cX4_bale 70 = .ok (.iload 4, 2) := by decide +kernel
theorem dX4_bale_72 : decode cX4_bale 72 = .ok (.aload_n 0, 1) := by decide +kernel
theorem dX4_bale_73 : decode cX4_bale 73 = .ok (.getfield 79, 3) := by decide +kernel
theorem dX4_bale_76 : decode cX4_bale 76 = .ok (.if_icmp .ge 52, 3) := by decide +kernel
theorem dX4_bale_79 : decode cX4_bale 79 = .ok (.aload_n 0, 1) := by decide +kernel
theorem dX4_bale_80 : decode cX4_bale 80 = .ok (.getfield 20, 3) := by decide +kernel
theorem dX4_bale_83 : decode cX4_bale 83 = .ok (.iload 4, 2) := by decide +kernel
theorem dX4_bale_85 : decode cX4_bale 85 = .ok (.aload_n 0, 1) := by decide +kernel
theorem dX4_bale_86 : decode cX4_bale 86 = .ok (.getfield 20, 3) := by decide +kernel
theorem dX4_bale_89 : decode cX4_bale 89 = .ok (.iload 4, 2) := by decide +kernel
theorem dX4_bale_91 : decode cX4_bale 91 = .ok (.iaload, 1) := by decide +kernel
theorem dX4_bale_92 : decode cX4_bale 92 = .ok (.ifCond .ge 22, 3) := by decide +kernel
theorem dX4_bale_95 : decode cX4_bale 95 = .ok (.aload_n 0, 1) := by decide +kernel
theorem dX4_bale_96 : decode cX4_bale 96 = .ok (.getfield 7, 3) := by decide +kernel
theorem dX4_bale_99 : decode cX4_bale 99 = .ok (.iload 4, 2) := by decide +kernel
theorem dX4_bale_101 : decode cX4_bale 101 = .ok (.laload, 1) := by decide +kernel
theorem dX4_bale_102 : decode cX4_bale 102 = .ok (.lload_n 1, 1) := by decide +kernel
theorem dX4_bale_103 : decode cX4_bale 103 = .ok (.lcmp, 1) := by decide +kernel
theorem dX4_bale_104 : decode cX4_bale 104 = .ok (.ifCond .gt 10, 3) := by decide +kernel
theorem dX4_bale_107 : decode cX4_bale 107 = .ok (.aload_n 0, 1) := by decide +kernel
theorem dX4_bale_108 : decode cX4_bale 108 = .ok (.getfield 76, 3) := by decide +kernel
theorem dX4_bale_111 : decode cX4_bale 111 = .ok (.goto 10, 3) := by decide +kernel
theorem dX4_bale_114 : decode cX4_bale 114 = .ok (.aload_n 0, 1) := by decide +kernel
theorem dX4_bale_115 : decode cX4_bale 115 = .ok (.getfield 20, 3) := by decide +kernel
theorem dX4_bale_118 : decode cX4_bale 118 = .ok (.iload 4, 2) := by decide +kernel
theorem dX4_bale_120 : decode cX4_bale 120 = .ok (.iaload, 1) := by decide +kernel
theorem dX4_bale_121 : decode cX4_bale 121 = .ok (.iastore, 1) := by decide +kernel
theorem dX4_bale_122 : decode cX4_bale 122 = .ok (.iinc 4 1, 3) := by decide +kernel
theorem dX4_bale_125 : decode cX4_bale 125 = .ok (.goto (-55), 3) := by decide +kernel
theorem dX4_bale_128 : decode cX4_bale 128 = .ok (.aload_n 0, 1) := by decide +kernel
theorem dX4_bale_129 : decode cX4_bale 129 = .ok (.invokevirtual 96, 3) := by decide +kernel
theorem dX4_bale_132 : decode cX4_bale 132 = .ok (.ireturn, 1) := by decide +kernel
theorem dX4_has_0 : decode cX4_has 0 = .ok (.iconst 1, 1) := by decide +kernel
theorem dX4_has_1 : decode cX4_has 1 = .ok (.iload_n 1, 1) := by decide +kernel
theorem dX4_has_2 : decode cX4_has 2 = .ok (.ishl, 1) := by decide +kernel
theorem dX4_has_3 : decode cX4_has 3 = .ok (.istore_n 3, 1) := by decide +kernel
theorem dX4_has_4 : decode cX4_has 4 = .ok (.iload_n 1, 1) := by decide +kernel
theorem dX4_has_5 : decode cX4_has 5 = .ok (.istore 4, 2) := by decide +kernel
theorem dX4_has_7 : decode cX4_has 7 = .ok (.iload 4, 2) := by decide +kernel
theorem dX4_has_9 : decode cX4_has 9 = .ok (.ifCond .lt 51, 3) := by decide +kernel
theorem dX4_has_12 : decode cX4_has 12 = .ok (.iload_n 3, 1) := by decide +kernel
theorem dX4_has_13 : decode cX4_has 13 = .ok (.iload 4, 2) := by decide +kernel
theorem dX4_has_15 : decode cX4_has 15 = .ok (.ishr, 1) := by decide +kernel
theorem dX4_has_16 : decode cX4_has 16 = .ok (.iconst 1, 1) := by decide +kernel
theorem dX4_has_17 : decode cX4_has 17 = .ok (.iand, 1) := by decide +kernel
theorem dX4_has_18 : decode cX4_has 18 = .ok (.iconst 1, 1) := by decide +kernel
theorem dX4_has_19 : decode cX4_has 19 = .ok (.if_icmp .ne 35, 3) := by decide +kernel
theorem dX4_has_22 : decode cX4_has 22 = .ok (.aload_n 0, 1) := by decide +kernel
theorem dX4_has_23 : decode cX4_has 23 = .ok (.getfield 42, 3) := by decide +kernel
theorem dX4_has_26 : decode cX4_has 26 = .ok (.iload 4, 2) := by decide +kernel
theorem dX4_has_28 : decode cX4_has 28 = .ok (.iaload, 1) := by decide +kernel
theorem dX4_has_29 : decode cX4_has 29 = .ok (.ifCond .lt 25, 3) := by decide +kernel
theorem dX4_has_32 : decode cX4_has 32 = .ok (.iload_n 3, 1) := by decide +kernel
theorem dX4_has_33 : decode cX4_has 33 = .ok (.iconst 1, 1) := by decide +kernel
theorem dX4_has_34 : decode cX4_has 34 = .ok (.aload_n 0, 1) := by decide +kernel
theorem dX4_has_35 : decode cX4_has 35 = .ok (.getfield 42, 3) := by decide +kernel
theorem dX4_has_38 : decode cX4_has 38 = .ok (.iload 4, 2) := by decide +kernel
theorem dX4_has_40 : decode cX4_has 40 = .ok (.iaload, 1) := by decide +kernel
theorem dX4_has_41 : decode cX4_has 41 = .ok (.ishl, 1) := by decide +kernel
theorem dX4_has_42 : decode cX4_has 42 = .ok (.iconst 1, 1) := by decide +kernel
theorem dX4_has_43 : decode cX4_has 43 = .ok (.aload_n 0, 1) := by decide +kernel
theorem dX4_has_44 : decode cX4_has 44 = .ok (.getfield 45, 3) := by decide +kernel
theorem dX4_has_47 : decode cX4_has 47 = .ok (.iload 4, 2) := by decide +kernel
theorem dX4_has_49 : decode cX4_has 49 = .ok (.iaload, 1) := by decide +kernel
theorem dX4_has_50 : decode cX4_has 50 = .ok (.ishl, 1) := by decide +kernel
theorem dX4_has_51 : decode cX4_has 51 = .ok (.ior, 1) := by decide +kernel
theorem dX4_has_52 : decode cX4_has 52 = .ok (.ior, 1) := by decide +kernel
theorem dX4_has_53 : decode cX4_has 53 = .ok (.istore_n 3, 1) := by decide +kernel
theorem dX4_has_54 : decode cX4_has 54 = .ok (.iinc 4 (-1), 3) := by decide +kernel
theorem dX4_has_57 : decode cX4_has 57 = .ok (.goto (-50), 3) := by decide +kernel
theorem dX4_has_60 : decode cX4_has 60 = .ok (.iload_n 3, 1) := by decide +kernel
theorem dX4_has_61 : decode cX4_has 61 = .ok (.iload_n 2, 1) := by decide +kernel
theorem dX4_has_62 : decode cX4_has 62 = .ok (.ishr, 1) := by decide +kernel
theorem dX4_has_63 : decode cX4_has 63 = .ok (.iconst 1, 1) := by decide +kernel
theorem dX4_has_64 : decode cX4_has 64 = .ok (.iand, 1) := by decide +kernel
theorem dX4_has_65 : decode cX4_has 65 = .ok (.iconst 1, 1) := by decide +kernel
theorem dX4_has_66 : decode cX4_has 66 = .ok (.if_icmp .ne 7, 3) := by decide +kernel
theorem dX4_has_69 : decode cX4_has 69 = .ok (.iconst 1, 1) := by decide +kernel
theorem dX4_has_70 : decode cX4_has 70 = .ok (.goto 4, 3) := by decide +kernel
theorem dX4_has_73 : decode cX4_has 73 = .ok (.iconst 0, 1) := by decide +kernel
theorem dX4_has_74 : decode cX4_has 74 = .ok (.ireturn, 1) := by decide +kernel
theorem dX4_gramsOf_0 : decode cX4_gramsOf 0 = .ok (.lconst 0, 1) := by decide +kernel
theorem dX4_gramsOf_1 : decode cX4_gramsOf 1 = .ok (.lstore_n 3, 1) := by decide +kernel
theorem dX4_gramsOf_2 : decode cX4_gramsOf 2 = .ok (.iconst 0, 1) := by decide +kernel
theorem dX4_gramsOf_3 : decode cX4_gramsOf 3 = .ok (.istore 5, 2) := by decide +kernel
theorem dX4_gramsOf_5 : decode cX4_gramsOf 5 = .ok (.iload 5, 2) := by decide +kernel
theorem dX4_gramsOf_7 : decode cX4_gramsOf 7 = .ok (.aload_n 0, 1) := by decide +kernel
theorem dX4_gramsOf_8 : decode cX4_gramsOf 8 = .ok (.getfield 79, 3) := by decide +kernel
theorem dX4_gramsOf_11 : decode cX4_gramsOf 11 = .ok (.if_icmp .ge 59, 3) := by decide +kernel
theorem dX4_gramsOf_14 : decode cX4_gramsOf 14 = .ok (.lload_n 3, 1) := by decide +kernel
theorem dX4_gramsOf_15 : decode cX4_gramsOf 15 = .ok (.aload_n 0, 1) := by decide +kernel
theorem dX4_gramsOf_16 : decode cX4_gramsOf 16 = .ok (.getfield 20, 3) := by decide +kernel
theorem dX4_gramsOf_19 : decode cX4_gramsOf 19 = .ok (.iload 5, 2) := by decide +kernel
theorem dX4_gramsOf_21 : decode cX4_gramsOf 21 = .ok (.iaload, 1) := by decide +kernel
theorem dX4_gramsOf_22 : decode cX4_gramsOf 22 = .ok (.ifCond .lt 39, 3) := by decide +kernel
theorem dX4_gramsOf_25 : decode cX4_gramsOf 25 = .ok (.aload_n 0, 1) := by decide +kernel
theorem dX4_gramsOf_26 : decode cX4_gramsOf 26 = .ok (.getfield 13, 3) := by decide +kernel
theorem dX4_gramsOf_29 : decode cX4_gramsOf 29 = .ok (.iload 5, 2) := by decide +kernel
theorem dX4_gramsOf_31 : decode cX4_gramsOf 31 = .ok (.iaload, 1) := by decide +kernel
theorem dX4_gramsOf_32 : decode cX4_gramsOf 32 = .ok (.iload_n 2, 1) := by decide +kernel
theorem dX4_gramsOf_33 : decode cX4_gramsOf 33 = .ok (.if_icmp .ne 28, 3) := by decide +kernel
theorem dX4_gramsOf_36 : decode cX4_gramsOf 36 = .ok (.aload_n 0, 1) := by decide +kernel
theorem dX4_gramsOf_37 : decode cX4_gramsOf 37 = .ok (.iload_n 1, 1) := by decide +kernel
theorem dX4_gramsOf_38 : decode cX4_gramsOf 38 = .ok (.aload_n 0, 1) := by decide +kernel
theorem dX4_gramsOf_39 : decode cX4_gramsOf 39 = .ok (.getfield 20, 3) := by decide +kernel
theorem dX4_gramsOf_42 : decode cX4_gramsOf 42 = .ok (.iload 5, 2) := by decide +kernel
theorem dX4_gramsOf_44 : decode cX4_gramsOf 44 = .ok (.iaload, 1) := by decide +kernel
theorem dX4_gramsOf_45 : decode cX4_gramsOf 45 = .ok (.invokevirtual 100, 3) := by decide +kernel
theorem dX4_gramsOf_48 : decode cX4_gramsOf 48 = .ok (.ifCond .eq 13, 3) := by decide +kernel
theorem dX4_gramsOf_51 : decode cX4_gramsOf 51 = .ok (.aload_n 0, 1) := by decide +kernel
theorem dX4_gramsOf_52 : decode cX4_gramsOf 52 = .ok (.getfield 17, 3) := by decide +kernel
theorem dX4_gramsOf_55 : decode cX4_gramsOf 55 = .ok (.iload 5, 2) := by decide +kernel
theorem dX4_gramsOf_57 : decode cX4_gramsOf 57 = .ok (.laload, 1) := by decide +kernel
theorem dX4_gramsOf_58 : decode cX4_gramsOf 58 = .ok (.goto 4, 3) := by decide +kernel
theorem dX4_gramsOf_61 : decode cX4_gramsOf 61 = .ok (.lconst 0, 1) := by decide +kernel
theorem dX4_gramsOf_62 : decode cX4_gramsOf 62 = .ok (.ladd, 1) := by decide +kernel
theorem dX4_gramsOf_63 : decode cX4_gramsOf 63 = .ok (.lstore_n 3, 1) := by decide +kernel
theorem dX4_gramsOf_64 : decode cX4_gramsOf 64 = .ok (.iinc 5 1, 3) := by decide +kernel
theorem dX4_gramsOf_67 : decode cX4_gramsOf 67 = .ok (.goto (-62), 3) := by decide +kernel
theorem dX4_gramsOf_70 : decode cX4_gramsOf 70 = .ok (.lload_n 3, 1) := by decide +kernel
theorem dX4_gramsOf_71 : decode cX4_gramsOf 71 = .ok (.lreturn, 1) := by decide +kernel
theorem dX4_weight_0 : decode cX4_weight 0 = .ok (.lconst 0, 1) := by decide +kernel
theorem dX4_weight_1 : decode cX4_weight 1 = .ok (.lstore_n 2, 1) := by decide +kernel
theorem dX4_weight_2 : decode cX4_weight 2 = .ok (.iconst 0, 1) := by decide +kernel
theorem dX4_weight_3 : decode cX4_weight 3 = .ok (.istore 4, 2) := by decide +kernel
theorem dX4_weight_5 : decode cX4_weight 5 = .ok (.iload 4, 2) := by decide +kernel
theorem dX4_weight_7 : decode cX4_weight 7 = .ok (.iconst 4, 1) := by decide +kernel
theorem dX4_weight_8 : decode cX4_weight 8 = .ok (.if_icmp .ge 19, 3) := by decide +kernel
theorem dX4_weight_11 : decode cX4_weight 11 = .ok (.lload_n 2, 1) := by decide +kernel
theorem dX4_weight_12 : decode cX4_weight 12 = .ok (.aload_n 0, 1) := by decide +kernel
theorem dX4_weight_13 : decode cX4_weight 13 = .ok (.iload_n 1, 1) := by decide +kernel
theorem dX4_weight_14 : decode cX4_weight 14 = .ok (.iload 4, 2) := by decide +kernel
theorem dX4_weight_16 : decode cX4_weight 16 = .ok (.invokevirtual 104, 3) := by decide +kernel
theorem dX4_weight_19 : decode cX4_weight 19 = .ok (.ladd, 1) := by decide +kernel
theorem dX4_weight_20 : decode cX4_weight 20 = .ok (.lstore_n 2, 1) := by decide +kernel
theorem dX4_weight_21 : decode cX4_weight 21 = .ok (.iinc 4 1, 3) := by decide +kernel
theorem dX4_weight_24 : decode cX4_weight 24 = .ok (.goto (-19), 3) := by decide +kernel
theorem dX4_weight_27 : decode cX4_weight 27 = .ok (.lload_n 2, 1) := by decide +kernel
theorem dX4_weight_28 : decode cX4_weight 28 = .ok (.lreturn, 1) := by decide +kernel
theorem dX4_mainOf_0 : decode cX4_mainOf 0 = .ok (.iconst 0, 1) := by decide +kernel
theorem dX4_mainOf_1 : decode cX4_mainOf 1 = .ok (.istore_n 2, 1) := by decide +kernel
theorem dX4_mainOf_2 : decode cX4_mainOf 2 = .ok (.iconst 1, 1) := by decide +kernel
theorem dX4_mainOf_3 : decode cX4_mainOf 3 = .ok (.istore_n 3, 1) := by decide +kernel
theorem dX4_mainOf_4 : decode cX4_mainOf 4 = .ok (.iload_n 3, 1) := by decide +kernel
theorem dX4_mainOf_5 : decode cX4_mainOf 5 = .ok (.iconst 4, 1) := by decide +kernel
theorem dX4_mainOf_6 : decode cX4_mainOf 6 = .ok (.if_icmp .ge 31, 3) := by decide +kernel
theorem dX4_mainOf_9 : decode cX4_mainOf 9 = .ok (.aload_n 0, 1) := by decide +kernel
theorem dX4_mainOf_10 : decode cX4_mainOf 10 = .ok (.iload_n 1, 1) := by decide +kernel
theorem dX4_mainOf_11 : decode cX4_mainOf 11 = .ok (.iload_n 3, 1) := by decide +kernel
theorem dX4_mainOf_12 : decode cX4_mainOf 12 = .ok (.invokevirtual 104, 3) := by decide +kernel
theorem dX4_mainOf_15 : decode cX4_mainOf 15 = .ok (.aload_n 0, 1) := by decide +kernel
theorem dX4_mainOf_16 : decode cX4_mainOf 16 = .ok (.iload_n 1, 1) := by decide +kernel
theorem dX4_mainOf_17 : decode cX4_mainOf 17 = .ok (.iload_n 2, 1) := by decide +kernel
theorem dX4_mainOf_18 : decode cX4_mainOf 18 = .ok (.invokevirtual 104, 3) := by decide +kernel
theorem dX4_mainOf_21 : decode cX4_mainOf 21 = .ok (.lcmp, 1) := by decide +kernel
theorem dX4_mainOf_22 : decode cX4_mainOf 22 = .ok (.ifCond .le 7, 3) := by decide +kernel
theorem dX4_mainOf_25 : decode cX4_mainOf 25 = .ok (.iload_n 3, 1) := by decide +kernel
theorem dX4_mainOf_26 : decode cX4_mainOf 26 = .ok (.goto 4, 3) := by decide +kernel
theorem dX4_mainOf_29 : decode cX4_mainOf 29 = .ok (.iload_n 2, 1) := by decide +kernel
theorem dX4_mainOf_30 : decode cX4_mainOf 30 = .ok (.istore_n 2, 1) := by decide +kernel
theorem dX4_mainOf_31 : decode cX4_mainOf 31 = .ok (.iinc 3 1, 3) := by decide +kernel
theorem dX4_mainOf_34 : decode cX4_mainOf 34 = .ok (.goto (-30), 3) := by decide +kernel
theorem dX4_mainOf_37 : decode cX4_mainOf 37 = .ok (.iload_n 2, 1) := by decide +kernel
theorem dX4_mainOf_38 : decode cX4_mainOf 38 = .ok (.ireturn, 1) := by decide +kernel
theorem dX4_in_0 : decode cX4_in 0 = .ok (.aload_n 0, 1) := by decide +kernel
theorem dX4_in_1 : decode cX4_in 1 = .ok (.iload_n 1, 1) := by decide +kernel
theorem dX4_in_2 : decode cX4_in 2 = .ok (.invokevirtual 108, 3) := by decide +kernel
theorem dX4_in_5 : decode cX4_in 5 = .ok (.ifCond .eq 19, 3) := by decide +kernel
theorem dX4_in_8 : decode cX4_in 8 = .ok (.iload_n 2, 1) := by decide +kernel
theorem dX4_in_9 : decode cX4_in 9 = .ok (.invokestatic 82, 3) := by decide +kernel
theorem dX4_in_12 : decode cX4_in 12 = .ok (.ifCond .eq 12, 3) := by decide +kernel
theorem dX4_in_15 : decode cX4_in 15 = .ok (.aload_n 0, 1) := by decide +kernel
theorem dX4_in_16 : decode cX4_in 16 = .ok (.iload_n 1, 1) := by decide +kernel
theorem dX4_in_17 : decode cX4_in 17 = .ok (.iload_n 2, 1) := by decide +kernel
theorem dX4_in_18 : decode cX4_in 18 = .ok (.invokevirtual 104, 3) := by decide +kernel
theorem dX4_in_21 : decode cX4_in 21 = .ok (.goto 6, 3) := by decide +kernel
theorem dX4_in_24 : decode cX4_in 24 = .ok (.ldc2_w 111, 3) := by decide +kernel
theorem dX4_in_27 : decode cX4_in 27 = .ok (.lreturn, 1) := by decide +kernel
theorem dX4_count_0 : decode cX4_count 0 = .ok (.iload_n 1, 1) := by decide +kernel
theorem dX4_count_1 : decode cX4_count 1 = .ok (.invokestatic 82, 3) := by decide +kernel
theorem dX4_count_4 : decode cX4_count 4 = .ok (.ifCond .ne 7, 3) := by decide +kernel
theorem dX4_count_7 : decode cX4_count 7 = .ok (.ldc2_w 111, 3) := by decide +kernel
theorem dX4_count_10 : decode cX4_count 10 = .ok (.lreturn, 1) := by decide +kernel
theorem dX4_count_11 : decode cX4_count 11 = .ok (.lconst 0, 1) := by decide +kernel
theorem dX4_count_12 : decode cX4_count 12 = .ok (.lstore_n 2, 1) := by decide +kernel
theorem dX4_count_13 : decode cX4_count 13 = .ok (.iconst 0, 1) := by decide +kernel
theorem dX4_count_14 : decode cX4_count 14 = .ok (.istore 4, 2) := by decide +kernel
theorem dX4_count_16 : decode cX4_count 16 = .ok (.iload 4, 2) := by decide +kernel
theorem dX4_count_18 : decode cX4_count 18 = .ok (.aload_n 0, 1) := by decide +kernel
theorem dX4_count_19 : decode cX4_count 19 = .ok (.getfield 79, 3) := by decide +kernel
theorem dX4_count_22 : decode cX4_count 22 = .ok (.if_icmp .ge 44, 3) := by decide +kernel
theorem dX4_count_25 : decode cX4_count 25 = .ok (.lload_n 2, 1) := by decide +kernel
theorem dX4_count_26 : decode cX4_count 26 = .ok (.aload_n 0, 1) := by decide +kernel
theorem dX4_count_27 : decode cX4_count 27 = .ok (.getfield 20, 3) := by decide +kernel
theorem dX4_count_30 : decode cX4_count 30 = .ok (.iload 4, 2) := by decide +kernel
theorem dX4_count_32 : decode cX4_count 32 = .ok (.iaload, 1) := by decide +kernel
theorem dX4_count_33 : decode cX4_count 33 = .ok (.ifCond .ge 24, 3) := by decide +kernel
theorem dX4_count_36 : decode cX4_count 36 = .ok (.aload_n 0, 1) := by decide +kernel
theorem dX4_count_37 : decode cX4_count 37 = .ok (.getfield 13, 3) := by decide +kernel
theorem dX4_count_40 : decode cX4_count 40 = .ok (.iload 4, 2) := by decide +kernel
theorem dX4_count_42 : decode cX4_count 42 = .ok (.iaload, 1) := by decide +kernel
theorem dX4_count_43 : decode cX4_count 43 = .ok (.iload_n 1, 1) := by decide +kernel
theorem dX4_count_44 : decode cX4_count 44 = .ok (.if_icmp .ne 13, 3) := by decide +kernel
theorem dX4_count_47 : decode cX4_count 47 = .ok (.aload_n 0, 1) := by decide +kernel
theorem dX4_count_48 : decode cX4_count 48 = .ok (.getfield 17, 3) := by decide +kernel
theorem dX4_count_51 : decode cX4_count 51 = .ok (.iload 4, 2) := by decide +kernel
theorem dX4_count_53 : decode cX4_count 53 = .ok (.laload, 1) := by decide +kernel
theorem dX4_count_54 : decode cX4_count 54 = .ok (.goto 4, 3) := by decide +kernel
theorem dX4_count_57 : decode cX4_count 57 = .ok (.lconst 0, 1) := by decide +kernel
theorem dX4_count_58 : decode cX4_count 58 = .ok (.ladd, 1) := by decide +kernel
theorem dX4_count_59 : decode cX4_count 59 = .ok (.lstore_n 2, 1) := by decide +kernel
theorem dX4_count_60 : decode cX4_count 60 = .ok (.iinc 4 1, 3) := by decide +kernel
theorem dX4_count_63 : decode cX4_count 63 = .ok (.goto (-47), 3) := by decide +kernel
theorem dX4_count_66 : decode cX4_count 66 = .ok (.lload_n 2, 1) := by decide +kernel
theorem dX4_count_67 : decode cX4_count 67 = .ok (.lreturn, 1) := by decide +kernel
theorem dX4_wires_0 : decode cX4_wires 0 = .ok (.aload_n 0, 1) := by decide +kernel
theorem dX4_wires_1 : decode cX4_wires 1 = .ok (.iload_n 1, 1) := by decide +kernel
theorem dX4_wires_2 : decode cX4_wires 2 = .ok (.invokevirtual 108, 3) := by decide +kernel
theorem dX4_wires_5 : decode cX4_wires 5 = .ok (.ifCond .ne 5, 3) := by decide +kernel
theorem dX4_wires_8 : decode cX4_wires 8 = .ok (.iconst (-1), 1) := by decide +kernel
theorem dX4_wires_9 : decode cX4_wires 9 = .ok (.ireturn, 1) := by decide +kernel
theorem dX4_wires_10 : decode cX4_wires 10 = .ok (.aload_n 0, 1) := by decide +kernel
theorem dX4_wires_11 : decode cX4_wires 11 = .ok (.iload_n 1, 1) := by decide +kernel
theorem dX4_wires_12 : decode cX4_wires 12 = .ok (.invokevirtual 113, 3) := by decide +kernel
theorem dX4_wires_15 : decode cX4_wires 15 = .ok (.ldc2_w 117, 3) := by decide +kernel
theorem dX4_wires_18 : decode cX4_wires 18 = .ok (.ladd, 1) := by decide +kernel
theorem dX4_wires_19 : decode cX4_wires 19 = .ok (.ldc2_w 119, 3) := by decide +kernel
theorem dX4_wires_22 : decode cX4_wires 22 = .ok (.ldiv, 1) := by decide +kernel
theorem dX4_wires_23 : decode cX4_wires 23 = .ok (.lstore_n 2, 1) := by decide +kernel
theorem dX4_wires_24 : decode cX4_wires 24 = .ok (.lload_n 2, 1) := by decide +kernel
theorem dX4_wires_25 : decode cX4_wires 25 = .ok (.ldc2_w 121, 3) := by decide +kernel
theorem dX4_wires_28 : decode cX4_wires 28 = .ok (.lcmp, 1) := by decide +kernel
theorem dX4_wires_29 : decode cX4_wires 29 = .ok (.ifCond .ge 7, 3) := by decide +kernel
theorem dX4_wires_32 : decode cX4_wires 32 = .ok (.iconst 3, 1) := by decide +kernel
theorem dX4_wires_33 : decode cX4_wires 33 = .ok (.goto 5, 3) := by decide +kernel
theorem dX4_wires_36 : decode cX4_wires 36 = .ok (.lload_n 2, 1) := by decide +kernel
theorem dX4_wires_37 : decode cX4_wires 37 = .ok (.l2i, 1) := by decide +kernel
theorem dX4_wires_38 : decode cX4_wires 38 = .ok (.ireturn, 1) := by decide +kernel
theorem dX4_size_0 : decode cX4_size 0 = .ok (.aload_n 0, 1) := by decide +kernel
theorem dX4_size_1 : decode cX4_size 1 = .ok (.iload_n 1, 1) := by decide +kernel
theorem dX4_size_2 : decode cX4_size 2 = .ok (.invokevirtual 108, 3) := by decide +kernel
theorem dX4_size_5 : decode cX4_size 5 = .ok (.ifCond .eq 14, 3) := by decide +kernel
theorem dX4_size_8 : decode cX4_size 8 = .ok (.dload_n 2, 1) := by decide +kernel
theorem dX4_size_9 : decode cX4_size 9 = .ok (.dconst 1, 1) := by decide +kernel
theorem dX4_size_10 : decode cX4_size 10 = .ok (.ldc2_w 123, 3) := by decide +kernel
theorem dX4_size_13 : decode cX4_size 13 = .ok (.invokestatic 125, 3) := by decide +kernel
theorem dX4_size_16 : decode cX4_size 16 = .ok (.ifCond .ne 7, 3) := by decide +kernel
theorem dX4_size_19 : decode cX4_size 19 = .ok (.ldc2_w 129, 3) := by decide +kernel
theorem dX4_size_22 : decode cX4_size 22 = .ok (.dreturn, 1) := by decide +kernel
theorem dX4_size_23 : decode cX4_size 23 = .ok (.aload_n 0, 1) := by decide +kernel
theorem dX4_size_24 : decode cX4_size 24 = .ok (.iload_n 1, 1) := by decide +kernel
theorem dX4_size_25 : decode cX4_size 25 = .ok (.invokevirtual 113, 3) := by decide +kernel
theorem dX4_size_28 : decode cX4_size 28 = .ok (.l2d, 1) := by decide +kernel
theorem dX4_size_29 : decode cX4_size 29 = .ok (.ldc2_w 131, 3) := by decide +kernel
theorem dX4_size_32 : decode cX4_size 32 = .ok (.dmul, 1) := by decide +kernel
theorem dX4_size_33 : decode cX4_size 33 = .ok (.dload_n 2, 1) := by decide +kernel
theorem dX4_size_34 : decode cX4_size 34 = .ok (.ddiv, 1) := by decide +kernel
theorem dX4_size_35 : decode cX4_size 35 = .ok (.dstore 4, 2) := by decide +kernel
theorem dX4_size_37 : decode cX4_size 37 = .ok (.dload 4, 2) := by decide +kernel
theorem dX4_size_39 : decode cX4_size 39 = .ok (.dload 4, 2) := by decide +kernel
theorem dX4_size_41 : decode cX4_size 41 = .ok (.ldc2_w 133, 3) := by decide +kernel
theorem dX4_size_44 : decode cX4_size 44 = .ok (.dmul, 1) := by decide +kernel
theorem dX4_size_45 : decode cX4_size 45 = .ok (.dadd, 1) := by decide +kernel
theorem dX4_size_46 : decode cX4_size 46 = .ok (.dreturn, 1) := by decide +kernel
theorem dX4_state_0 : decode cX4_state 0 = .ok (.aload_n 0, 1) := by decide +kernel
theorem dX4_state_1 : decode cX4_state 1 = .ok (.iload_n 1, 1) := by decide +kernel
theorem dX4_state_2 : decode cX4_state 2 = .ok (.invokevirtual 108, 3) := by decide +kernel
theorem dX4_state_5 : decode cX4_state 5 = .ok (.ifCond .eq 12, 3) := by decide +kernel
theorem dX4_state_8 : decode cX4_state 8 = .ok (.aload_n 0, 1) := by decide +kernel
theorem dX4_state_9 : decode cX4_state 9 = .ok (.getfield 23, 3) := by decide +kernel
theorem dX4_state_12 : decode cX4_state 12 = .ok (.iload_n 1, 1) := by decide +kernel
theorem dX4_state_13 : decode cX4_state 13 = .ok (.iaload, 1) := by decide +kernel
theorem dX4_state_14 : decode cX4_state 14 = .ok (.goto 4, 3) := by decide +kernel
theorem dX4_state_17 : decode cX4_state 17 = .ok (.iconst (-1), 1) := by decide +kernel
theorem dX4_state_18 : decode cX4_state 18 = .ok (.ireturn, 1) := by decide +kernel
theorem dX4_row_0 : decode cX4_row 0 = .ok (.aload_n 0, 1) := by decide +kernel
theorem dX4_row_1 : decode cX4_row 1 = .ok (.getfield 135, 3) := by decide +kernel
theorem dX4_row_4 : decode cX4_row 4 = .ok (.bipush 6, 2) := by decide +kernel
theorem dX4_row_6 : decode cX4_row 6 = .ok (.if_icmp .eq 50, 3) := by decide +kernel
theorem dX4_row_9 : decode cX4_row 9 = .ok (.dload_n 1, 1) := by decide +kernel
theorem dX4_row_10 : decode cX4_row 10 = .ok (.ldc2_w 138, 3) := by decide +kernel
theorem dX4_row_13 : decode cX4_row 13 = .ok (.ldc2_w 140, 3) := by decide +kernel
theorem dX4_row_16 : decode cX4_row 16 = .ok (.invokestatic 125, 3) := by decide +kernel
theorem dX4_row_19 : decode cX4_row 19 = .ok (.ifCond .eq 37, 3) := by decide +kernel
theorem dX4_row_22 : decode cX4_row 22 = .ok (.dload_n 3, 1) := by decide +kernel
theorem dX4_row_23 : decode cX4_row 23 = .ok (.dconst 0, 1) := by decide +kernel
theorem dX4_row_24 : decode cX4_row 24 = .ok (.ldc2_w 142, 3) := by decide +kernel
theorem dX4_row_27 : decode cX4_row 27 = .ok (.invokestatic 125, 3) := by decide +kernel
theorem dX4_row_30 : decode cX4_row 30 = .ok (.ifCond .eq 26, 3) := by decide +kernel
theorem dX4_row_33 : decode cX4_row 33 = .ok (.aload_n 0, 1) := by decide +kernel
theorem dX4_row_34 : decode cX4_row 34 = .ok (.getfield 135, 3) := by decide +kernel
theorem dX4_row_37 : decode cX4_row 37 = .ok (.ifCond .le 21, 3) := by decide +kernel
theorem dX4_row_40 : decode cX4_row 40 = .ok (.dload_n 1, 1) := by decide +kernel
theorem dX4_row_41 : decode cX4_row 41 = .ok (.aload_n 0, 1) := by decide +kernel
theorem dX4_row_42 : decode cX4_row 42 = .ok (.getfield 48, 3) := by decide +kernel
theorem dX4_row_45 : decode cX4_row 45 = .ok (.aload_n 0, 1) := by decide +kernel
theorem dX4_row_46 : decode cX4_row 46 = .ok (.getfield 135, 3) := by decide +kernel
theorem dX4_row_49 : decode cX4_row 49 = .ok (.iconst 1, 1) := by decide +kernel
theorem dX4_row_50 : decode cX4_row 50 = .ok (.isub, 1) := by decide +kernel
theorem dX4_row_51 : decode cX4_row 51 = .ok (.daload, 1) := by decide +kernel
theorem dX4_row_52 : decode cX4_row 52 = .ok (.dcmp .g, 1) := by decide +kernel
theorem dX4_row_53 : decode cX4_row 53 = .ok (.ifCond .gt 5, 3) := by decide +kernel
theorem dX4_row_56 : decode cX4_row 56 = .ok (.iconst 0, 1) := by decide +kernel
theorem dX4_row_57 : decode cX4_row 57 = .ok (.ireturn, 1) := by decide +kernel
theorem dX4_row_58 : decode cX4_row 58 = .ok (.aload_n 0, 1) := by decide +kernel
theorem dX4_row_59 : decode cX4_row 59 = .ok (.getfield 48, 3) := by decide +kernel

theorem dX0_init_0 : decode cX0_init 0 = .ok (.aload_n 0, 1) := by decide +kernel
theorem dX0_init_1 : decode cX0_init 1 = .ok (.invokespecial 3, 3) := by decide +kernel
theorem dX0_init_4 : decode cX0_init 4 = .ok (.aload_n 0, 1) := by decide +kernel
theorem dX0_init_5 : decode cX0_init 5 = .ok (.iconst 4, 1) := by decide +kernel
theorem dX0_init_6 : decode cX0_init 6 = .ok (.newarray .long, 2) := by decide +kernel
theorem dX0_init_8 : decode cX0_init 8 = .ok (.putfield 9, 3) := by decide +kernel
theorem dX0_init_11 : decode cX0_init 11 = .ok (.aload_n 0, 1) := by decide +kernel
theorem dX0_init_12 : decode cX0_init 12 = .ok (.ldc2_w 15, 3) := by decide +kernel
theorem dX0_init_15 : decode cX0_init 15 = .ok (.putfield 17, 3) := by decide +kernel
theorem dX0_init_18 : decode cX0_init 18 = .ok (.aload_n 0, 1) := by decide +kernel
theorem dX0_init_19 : decode cX0_init 19 = .ok (.iconst 0, 1) := by decide +kernel
theorem dX0_init_20 : decode cX0_init 20 = .ok (.putfield 21, 3) := by decide +kernel
theorem dX0_init_23 : decode cX0_init 23 = .ok (.aload_n 0, 1) := by decide +kernel
theorem dX0_init_24 : decode cX0_init 24 = .ok (.iconst (-1), 1) := by decide +kernel
theorem dX0_init_25 : decode cX0_init 25 = .ok (.putfield 25, 3) := by decide +kernel
theorem dX0_init_28 : decode cX0_init 28 = .ok (.return_, 1) := by decide +kernel
theorem dX0_addGrams_0 : decode cX0_addGrams 0 = .ok (.iload_n 1, 1) := by decide +kernel
theorem dX0_addGrams_1 : decode cX0_addGrams 1 = .ok (.invokestatic 28, 3) := by decide +kernel
theorem dX0_addGrams_4 : decode cX0_addGrams 4 = .ok (.ifCond .eq 13, 3) := by decide +kernel
theorem dX0_addGrams_7 : decode cX0_addGrams 7 = .ok (.aload_n 0, 1) := by decide +kernel
theorem dX0_addGrams_8 : decode cX0_addGrams 8 = .ok (.getfield 9, 3) := by decide +kernel
theorem dX0_addGrams_11 : decode cX0_addGrams 11 = .ok (.iload_n 1, 1) := by decide +kernel
theorem dX0_addGrams_12 : decode cX0_addGrams 12 = .ok (.dup2, 1) := by decide +kernel
theorem dX0_addGrams_13 : decode cX0_addGrams 13 = .ok (.laload, 1) := by decide +kernel
theorem dX0_addGrams_14 : decode cX0_addGrams 14 = .ok (.lload_n 2, 1) := by decide +kernel
theorem dX0_addGrams_15 : decode cX0_addGrams 15 = .ok (.ladd, 1) := by decide +kernel
theorem dX0_addGrams_16 : decode cX0_addGrams 16 = .ok (.lastore, 1) := by decide +kernel
theorem dX0_addGrams_17 : decode cX0_addGrams 17 = .ok (.return_, 1) := by decide +kernel
theorem dX0_makeOf_0 : decode cX0_makeOf 0 = .ok (.aload_n 1, 1) := by decide +kernel
theorem dX0_makeOf_1 : decode cX0_makeOf 1 = .ok (.ifnull 7, 3) := by decide +kernel
theorem dX0_makeOf_4 : decode cX0_makeOf 4 = .ok (.aload_n 2, 1) := by decide +kernel
theorem dX0_makeOf_5 : decode cX0_makeOf 5 = .ok (.ifnonnull 4, 3) := by decide +kernel
theorem dX0_makeOf_8 : decode cX0_makeOf 8 = .ok (.return_, 1) := by decide +kernel
theorem dX0_makeOf_9 : decode cX0_makeOf 9 = .ok (.iconst 0, 1) := by decide +kernel
theorem dX0_makeOf_10 : decode cX0_makeOf 10 = .ok (.istore_n 3, 1) := by decide +kernel
theorem dX0_makeOf_11 : decode cX0_makeOf 11 = .ok (.iload_n 3, 1) := by decide +kernel
theorem dX0_makeOf_12 : decode cX0_makeOf 12 = .ok (.iconst 4, 1) := by decide +kernel
theorem dX0_makeOf_13 : decode cX0_makeOf 13 = .ok (.if_icmp .ge 25, 3) := by decide +kernel
theorem dX0_makeOf_16 : decode cX0_makeOf 16 = .ok (.aload_n 0, 1) := by decide +kernel
theorem dX0_makeOf_17 : decode cX0_makeOf 17 = .ok (.iload_n 3, 1) := by decide +kernel
theorem dX0_makeOf_18 : decode cX0_makeOf 18 = .ok (.aload_n 1, 1) := by decide +kernel
theorem dX0_makeOf_19 : decode cX0_makeOf 19 = .ok (.iload_n 3, 1) := by decide +kernel
theorem dX0_makeOf_20 : decode cX0_makeOf 20 = .ok (.invokevirtual 32, 3) := by decide +kernel
theorem dX0_makeOf_23 : decode cX0_makeOf 23 = .ok (.aload_n 2, 1) := by decide +kernel
theorem dX0_makeOf_24 : decode cX0_makeOf 24 = .ok (.iload_n 3, 1) := by decide +kernel
theorem dX0_makeOf_25 : decode cX0_makeOf 25 = .ok (.invokevirtual 32, 3) := by decide +kernel
theorem dX0_makeOf_28 : decode cX0_makeOf 28 = .ok (.ladd, 1) := by decide +kernel
theorem dX0_makeOf_29 : decode cX0_makeOf 29 = .ok (.invokevirtual 36, 3) := by decide +kernel
theorem dX0_makeOf_32 : decode cX0_makeOf 32 = .ok (.iinc 3 1, 3) := by decide +kernel
theorem dX0_makeOf_35 : decode cX0_makeOf 35 = .ok (.goto (-24), 3) := by decide +kernel
theorem dX0_makeOf_38 : decode cX0_makeOf 38 = .ok (.aload_n 0, 1) := by decide +kernel
theorem dX0_makeOf_39 : decode cX0_makeOf 39 = .ok (.aload_n 1, 1) := by decide +kernel
theorem dX0_makeOf_40 : decode cX0_makeOf 40 = .ok (.getfield 17, 3) := by decide +kernel
theorem dX0_makeOf_43 : decode cX0_makeOf 43 = .ok (.aload_n 2, 1) := by decide +kernel
theorem dX0_makeOf_44 : decode cX0_makeOf 44 = .ok (.getfield 17, 3) := by decide +kernel
theorem dX0_makeOf_47 : decode cX0_makeOf 47 = .ok (.dcmp .l, 1) := by decide +kernel
theorem dX0_makeOf_48 : decode cX0_makeOf 48 = .ok (.ifCond .lt 10, 3) := by decide +kernel
theorem dX0_makeOf_51 : decode cX0_makeOf 51 = .ok (.aload_n 1, 1) := by decide +kernel
theorem dX0_makeOf_52 : decode cX0_makeOf 52 = .ok (.getfield 17, 3) := by decide +kernel
theorem dX0_makeOf_55 : decode cX0_makeOf 55 = .ok (.goto 7, 3) := by decide +kernel
theorem dX0_makeOf_58 : decode cX0_makeOf 58 = .ok (.aload_n 2, 1) := by decide +kernel
theorem dX0_makeOf_59 : decode cX0_makeOf 59 = .ok (.getfield 17, 3) := by decide +kernel
theorem dX0_makeOf_62 : decode cX0_makeOf 62 = .ok (.putfield 17, 3) := by decide +kernel
theorem dX0_makeOf_65 : decode cX0_makeOf 65 = .ok (.aload_n 0, 1) := by decide +kernel
theorem dX0_makeOf_66 : decode cX0_makeOf 66 = .ok (.aload_n 1, 1) := by decide +kernel
theorem dX0_makeOf_67 : decode cX0_makeOf 67 = .ok (.putfield 40, 3) := by decide +kernel
theorem dX0_makeOf_70 : decode cX0_makeOf 70 = .ok (.aload_n 0, 1) := by decide +kernel
theorem dX0_makeOf_71 : decode cX0_makeOf 71 = .ok (.aload_n 2, 1) := by decide +kernel
theorem dX0_makeOf_72 : decode cX0_makeOf 72 = .ok (.putfield 44, 3) := by decide +kernel
theorem dX0_makeOf_75 : decode cX0_makeOf 75 = .ok (.return_, 1) := by decide +kernel
theorem dX0_gramsOf_0 : decode cX0_gramsOf 0 = .ok (.iload_n 1, 1) := by decide +kernel
theorem dX0_gramsOf_1 : decode cX0_gramsOf 1 = .ok (.invokestatic 28, 3) := by decide +kernel
theorem dX0_gramsOf_4 : decode cX0_gramsOf 4 = .ok (.ifCond .eq 12, 3) := by decide +kernel
theorem dX0_gramsOf_7 : decode cX0_gramsOf 7 = .ok (.aload_n 0, 1) := by decide +kernel
theorem dX0_gramsOf_8 : decode cX0_gramsOf 8 = .ok (.getfield 9, 3) := by decide +kernel
theorem dX0_gramsOf_11 : decode cX0_gramsOf 11 = .ok (.iload_n 1, 1) := by decide +kernel
theorem dX0_gramsOf_12 : decode cX0_gramsOf 12 = .ok (.laload, 1) := by decide +kernel
theorem dX0_gramsOf_13 : decode cX0_gramsOf 13 = .ok (.goto 4, 3) := by decide +kernel
theorem dX0_gramsOf_16 : decode cX0_gramsOf 16 = .ok (.lconst 0, 1) := by decide +kernel
theorem dX0_gramsOf_17 : decode cX0_gramsOf 17 = .ok (.lreturn, 1) := by decide +kernel
theorem dX0_totalGrams_0 : decode cX0_totalGrams 0 = .ok (.lconst 0, 1) := by decide +kernel
theorem dX0_totalGrams_1 : decode cX0_totalGrams 1 = .ok (.lstore_n 1, 1) := by decide +kernel
theorem dX0_totalGrams_2 : decode cX0_totalGrams 2 = .ok (.iconst 0, 1) := by decide +kernel
theorem dX0_totalGrams_3 : decode cX0_totalGrams 3 = .ok (.istore_n 3, 1) := by decide +kernel
theorem dX0_totalGrams_4 : decode cX0_totalGrams 4 = .ok (.iload_n 3, 1) := by decide +kernel
theorem dX0_totalGrams_5 : decode cX0_totalGrams 5 = .ok (.iconst 4, 1) := by decide +kernel
theorem dX0_totalGrams_6 : decode cX0_totalGrams 6 = .ok (.if_icmp .ge 18, 3) := by decide +kernel
theorem dX0_totalGrams_9 : decode cX0_totalGrams 9 = .ok (.lload_n 1, 1) := by decide +kernel
theorem dX0_totalGrams_10 : decode cX0_totalGrams 10 = .ok (.aload_n 0, 1) := by decide +kernel
theorem dX0_totalGrams_11 : decode cX0_totalGrams 11 = .ok (.getfield 9, 3) := by decide +kernel
theorem dX0_totalGrams_14 : decode cX0_totalGrams 14 = .ok (.iload_n 3, 1) := by decide +kernel
theorem dX0_totalGrams_15 : decode cX0_totalGrams 15 = .ok (.laload, 1) := by decide +kernel
theorem dX0_totalGrams_16 : decode cX0_totalGrams 16 = .ok (.ladd, 1) := by decide +kernel
theorem dX0_totalGrams_17 : decode cX0_totalGrams 17 = .ok (.lstore_n 1, 1) := by decide +kernel
theorem dX0_totalGrams_18 : decode cX0_totalGrams 18 = .ok (.iinc 3 1, 3) := by decide +kernel
theorem dX0_totalGrams_21 : decode cX0_totalGrams 21 = .ok (.goto (-17), 3) := by decide +kernel
theorem dX0_totalGrams_24 : decode cX0_totalGrams 24 = .ok (.lload_n 1, 1) := by decide +kernel
theorem dX0_totalGrams_25 : decode cX0_totalGrams 25 = .ok (.lreturn, 1) := by decide +kernel
theorem dX0_mainKind_0 : decode cX0_mainKind 0 = .ok (.iconst 0, 1) := by decide +kernel
theorem dX0_mainKind_1 : decode cX0_mainKind 1 = .ok (.istore_n 1, 1) := by decide +kernel
theorem dX0_mainKind_2 : decode cX0_mainKind 2 = .ok (.iconst 1, 1) := by decide +kernel
theorem dX0_mainKind_3 : decode cX0_mainKind 3 = .ok (.istore_n 2, 1) := by decide +kernel
theorem dX0_mainKind_4 : decode cX0_mainKind 4 = .ok (.iload_n 2, 1) := by decide +kernel
theorem dX0_mainKind_5 : decode cX0_mainKind 5 = .ok (.iconst 4, 1) := by decide +kernel
theorem dX0_mainKind_6 : decode cX0_mainKind 6 = .ok (.if_icmp .ge 27, 3) := by decide +kernel
theorem dX0_mainKind_9 : decode cX0_mainKind 9 = .ok (.aload_n 0, 1) := by decide +kernel
theorem dX0_mainKind_10 : decode cX0_mainKind 10 = .ok (.getfield 9, 3) := by decide +kernel
theorem dX0_mainKind_13 : decode cX0_mainKind 13 = .ok (.iload_n 2, 1) := by decide +kernel
theorem dX0_mainKind_14 : decode cX0_mainKind 14 = .ok (.laload, 1) := by decide +kernel
theorem dX0_mainKind_15 : decode cX0_mainKind 15 = .ok (.aload_n 0, 1) := by decide +kernel
theorem dX0_mainKind_16 : decode cX0_mainKind 16 = .ok (.getfield 9, 3) := by decide +kernel
theorem dX0_mainKind_19 : decode cX0_mainKind 19 = .ok (.iload_n 1, 1) := by decide +kernel
theorem dX0_mainKind_20 : decode cX0_mainKind 20 = .ok (.laload, 1) := by decide +kernel
theorem dX0_mainKind_21 : decode cX0_mainKind 21 = .ok (.lcmp, 1) := by decide +kernel
theorem dX0_mainKind_22 : decode cX0_mainKind 22 = .ok (.ifCond .le 5, 3) := by decide +kernel
theorem dX0_mainKind_25 : decode cX0_mainKind 25 = .ok (.iload_n 2, 1) := by decide +kernel
theorem dX0_mainKind_26 : decode cX0_mainKind 26 = .ok (.istore_n 1, 1) := by decide +kernel
theorem dX0_mainKind_27 : decode cX0_mainKind 27 = .ok (.iinc 2 1, 3) := by decide +kernel
theorem dX0_mainKind_30 : decode cX0_mainKind 30 = .ok (.goto (-26), 3) := by decide +kernel
theorem dX0_mainKind_33 : decode cX0_mainKind 33 = .ok (.iload_n 1, 1) := by decide +kernel
theorem dX0_mainKind_34 : decode cX0_mainKind 34 = .ok (.ireturn, 1) := by decide +kernel
theorem dX0_isHot_0 : decode cX0_isHot 0 = .ok (.aload_n 0, 1) := by decide +kernel
theorem dX0_isHot_1 : decode cX0_isHot 1 = .ok (.getfield 17, 3) := by decide +kernel
theorem dX0_isHot_4 : decode cX0_isHot 4 = .ok (.ldc2_w 47, 3) := by decide +kernel
theorem dX0_isHot_7 : decode cX0_isHot 7 = .ok (.dcmp .l, 1) := by decide +kernel
theorem dX0_isHot_8 : decode cX0_isHot 8 = .ok (.ifCond .lt 7, 3) := by decide +kernel
theorem dX0_isHot_11 : decode cX0_isHot 11 = .ok (.iconst 1, 1) := by decide +kernel
theorem dX0_isHot_12 : decode cX0_isHot 12 = .ok (.goto 4, 3) := by decide +kernel
theorem dX0_isHot_15 : decode cX0_isHot 15 = .ok (.iconst 0, 1) := by decide +kernel
theorem dX0_isHot_16 : decode cX0_isHot 16 = .ok (.ireturn, 1) := by decide +kernel
theorem dX0_isGoneOrSold_0 : decode cX0_isGoneOrSold 0 = .ok (.aload_n 0, 1) := by decide +kernel
theorem dX0_isGoneOrSold_1 : decode cX0_isGoneOrSold 1 = .ok (.getfield 21, 3) := by decide +kernel
theorem dX0_isGoneOrSold_4 : decode cX0_isGoneOrSold 4 = .ok (.iconst 3, 1) := by decide +kernel
theorem dX0_isGoneOrSold_5 : decode cX0_isGoneOrSold 5 = .ok (.if_icmp .eq 11, 3) := by decide +kernel
theorem dX0_isGoneOrSold_8 : decode cX0_isGoneOrSold 8 = .ok (.aload_n 0, 1) := by decide +kernel
theorem dX0_isGoneOrSold_9 : decode cX0_isGoneOrSold 9 = .ok (.getfield 21, 3) := by decide +kernel
theorem dX0_isGoneOrSold_12 : decode cX0_isGoneOrSold 12 = .ok (.iconst 2, 1) := by decide +kernel
theorem dX0_isGoneOrSold_13 : decode cX0_isGoneOrSold 13 = .ok (.if_icmp .ne 7, 3) := by decide +kernel
theorem dX0_isGoneOrSold_16 : decode cX0_isGoneOrSold 16 = .ok (.iconst 1, 1) := by decide +kernel
theorem dX0_isGoneOrSold_17 : decode cX0_isGoneOrSold 17 = .ok (.goto 4, 3) := by decide +kernel
theorem dX0_isGoneOrSold_20 : decode cX0_isGoneOrSold 20 = .ok (.iconst 0, 1) := by decide +kernel
theorem dX0_isGoneOrSold_21 : decode cX0_isGoneOrSold 21 = .ok (.ireturn, 1) := by decide +kernel
theorem dX0_standsOn_0 : decode cX0_standsOn 0 = .ok (.aload_n 0, 1) := by decide +kernel
theorem dX0_standsOn_1 : decode cX0_standsOn 1 = .ok (.getfield 21, 3) := by decide +kernel
theorem dX0_standsOn_4 : decode cX0_standsOn 4 = .ok (.iconst 1, 1) := by decide +kernel
theorem dX0_standsOn_5 : decode cX0_standsOn 5 = .ok (.if_icmp .ne 15, 3) := by decide +kernel
theorem dX0_standsOn_8 : decode cX0_standsOn 8 = .ok (.aload_n 0, 1) := by decide +kernel
theorem dX0_standsOn_9 : decode cX0_standsOn 9 = .ok (.getfield 25, 3) := by decide +kernel
theorem dX0_standsOn_12 : decode cX0_standsOn 12 = .ok (.iload_n 1, 1) := by decide +kernel
theorem dX0_standsOn_13 : decode cX0_standsOn 13 = .ok (.if_icmp .ne 7, 3) := by decide +kernel
theorem dX0_standsOn_16 : decode cX0_standsOn 16 = .ok (.iconst 1, 1) := by decide +kernel
theorem dX0_standsOn_17 : decode cX0_standsOn 17 = .ok (.goto 4, 3) := by decide +kernel
theorem dX0_standsOn_20 : decode cX0_standsOn 20 = .ok (.iconst 0, 1) := by decide +kernel
theorem dX0_standsOn_21 : decode cX0_standsOn 21 = .ok (.ireturn, 1) := by decide +kernel
theorem dX0_passHour_0 : decode cX0_passHour 0 = .ok (.aload_n 0, 1) := by decide +kernel
theorem dX0_passHour_1 : decode cX0_passHour 1 = .ok (.aload_n 0, 1) := by decide +kernel
theorem dX0_passHour_2 : decode cX0_passHour 2 = .ok (.getfield 17, 3) := by decide +kernel
theorem dX0_passHour_5 : decode cX0_passHour 5 = .ok (.dload_n 1, 1) := by decide +kernel
theorem dX0_passHour_6 : decode cX0_passHour 6 = .ok (.dadd, 1) := by decide +kernel
theorem dX0_passHour_7 : decode cX0_passHour 7 = .ok (.aload_n 0, 1) := by decide +kernel
theorem dX0_passHour_8 : decode cX0_passHour 8 = .ok (.getfield 17, 3) := by decide +kernel
theorem dX0_passHour_11 : decode cX0_passHour 11 = .ok (.dload_n 3, 1) := by decide +kernel
theorem dX0_passHour_12 : decode cX0_passHour 12 = .ok (.dsub, 1) := by decide +kernel
theorem dX0_passHour_13 : decode cX0_passHour 13 = .ok (.ldc2_w 49, 3) := by decide +kernel
theorem dX0_passHour_16 : decode cX0_passHour 16 = .ok (.dmul, 1) := by decide +kernel
theorem dX0_passHour_17 : decode cX0_passHour 17 = .ok (.dsub, 1) := by decide +kernel
theorem dX0_passHour_18 : decode cX0_passHour 18 = .ok (.putfield 17, 3) := by decide +kernel
theorem dX0_passHour_21 : decode cX0_passHour 21 = .ok (.aload_n 0, 1) := by decide +kernel
theorem dX0_passHour_22 : decode cX0_passHour 22 = .ok (.aload_n 0, 1) := by decide +kernel
theorem dX0_passHour_23 : decode cX0_passHour 23 = .ok (.invokevirtual 51, 3) := by decide +kernel
theorem dX0_passHour_26 : decode cX0_passHour 26 = .ok (.ifCond .eq 12, 3) := by decide +kernel
theorem dX0_passHour_29 : decode cX0_passHour 29 = .ok (.aload_n 0, 1) := by decide +kernel
theorem dX0_passHour_30 : decode cX0_passHour 30 = .ok (.getfield 55, 3) := by decide +kernel
theorem dX0_passHour_33 : decode cX0_passHour 33 = .ok (.iconst 1, 1) := by decide +kernel
theorem dX0_passHour_34 : decode cX0_passHour 34 = .ok (.iadd, 1) := by decide +kernel
theorem dX0_passHour_35 : decode cX0_passHour 35 = .ok (.goto 4, 3) := by decide +kernel
theorem dX0_passHour_38 : decode cX0_passHour 38 = .ok (.iconst 0, 1) := by decide +kernel
theorem dX0_passHour_39 : decode cX0_passHour 39 = .ok (.putfield 55, 3) := by decide +kernel
theorem dX0_passHour_42 : decode cX0_passHour 42 = .ok (.aload_n 0, 1) := by decide +kernel
theorem dX0_passHour_43 : decode cX0_passHour 43 = .ok (.aload_n 0, 1) := by decide +kernel
theorem dX0_passHour_44 : decode cX0_passHour 44 = .ok (.getfield 58, 3) := by decide +kernel
theorem dX0_passHour_47 : decode cX0_passHour 47 = .ok (.aload_n 0, 1) := by decide +kernel
theorem dX0_passHour_48 : decode cX0_passHour 48 = .ok (.getfield 55, 3) := by decide +kernel
theorem dX0_passHour_51 : decode cX0_passHour 51 = .ok (.invokestatic 61, 3) := by decide +kernel
theorem dX0_passHour_54 : decode cX0_passHour 54 = .ok (.putfield 58, 3) := by decide +kernel
theorem dX0_passHour_57 : decode cX0_passHour 57 = .ok (.return_, 1) := by decide +kernel
theorem dX1_init_0 : decode cX1_init 0 = .ok (.aload_n 0, 1) := by decide +kernel
theorem dX1_init_1 : decode cX1_init 1 = .ok (.invokespecial 3, 3) := by decide +kernel
theorem dX1_init_4 : decode cX1_init 4 = .ok (.aload_n 0, 1) := by decide +kernel
theorem dX1_init_5 : decode cX1_init 5 = .ok (.lload_n 1, 1) := by decide +kernel
theorem dX1_init_6 : decode cX1_init 6 = .ok (.putfield 9, 3) := by decide +kernel
theorem dX1_init_9 : decode cX1_init 9 = .ok (.aload_n 0, 1) := by decide +kernel
theorem dX1_init_10 : decode cX1_init 10 = .ok (.lload_n 3, 1) := by decide +kernel
theorem dX1_init_11 : decode cX1_init 11 = .ok (.putfield 15, 3) := by decide +kernel
theorem dX1_init_14 : decode cX1_init 14 = .ok (.return_, 1) := by decide +kernel
theorem dX1_hasRoomFor_0 : decode cX1_hasRoomFor 0 = .ok (.aload_n 0, 1) := by decide +kernel
theorem dX1_hasRoomFor_1 : decode cX1_hasRoomFor 1 = .ok (.getfield 18, 3) := by decide +kernel
theorem dX1_hasRoomFor_4 : decode cX1_hasRoomFor 4 = .ok (.bipush 8, 2) := by decide +kernel
theorem dX1_hasRoomFor_6 : decode cX1_hasRoomFor 6 = .ok (.if_icmp .ge 39, 3) := by decide +kernel
theorem dX1_hasRoomFor_9 : decode cX1_hasRoomFor 9 = .ok (.aload_n 0, 1) := by decide +kernel
theorem dX1_hasRoomFor_10 : decode cX1_hasRoomFor 10 = .ok (.getfield 22, 3) := by decide +kernel
theorem dX1_hasRoomFor_13 : decode cX1_hasRoomFor 13 = .ok (.lload_n 1, 1) := by decide +kernel
theorem dX1_hasRoomFor_14 : decode cX1_hasRoomFor 14 = .ok (.ladd, 1) := by decide +kernel
theorem dX1_hasRoomFor_15 : decode cX1_hasRoomFor 15 = .ok (.aload_n 0, 1) := by decide +kernel
theorem dX1_hasRoomFor_16 : decode cX1_hasRoomFor 16 = .ok (.getfield 9, 3) := by decide +kernel
theorem dX1_hasRoomFor_19 : decode cX1_hasRoomFor 19 = .ok (.lcmp, 1) := by decide +kernel
theorem dX1_hasRoomFor_20 : decode cX1_hasRoomFor 20 = .ok (.ifCond .gt 25, 3) := by decide +kernel
theorem dX1_hasRoomFor_23 : decode cX1_hasRoomFor 23 = .ok (.aload_n 0, 1) := by decide +kernel
theorem dX1_hasRoomFor_24 : decode cX1_hasRoomFor 24 = .ok (.getfield 25, 3) := by decide +kernel
theorem dX1_hasRoomFor_27 : decode cX1_hasRoomFor 27 = .ok (.aload_n 0, 1) := by decide +kernel
theorem dX1_hasRoomFor_28 : decode cX1_hasRoomFor 28 = .ok (.lload_n 1, 1) := by decide +kernel
theorem dX1_hasRoomFor_29 : decode cX1_hasRoomFor 29 = .ok (.invokevirtual 28, 3) := by decide +kernel
theorem dX1_hasRoomFor_32 : decode cX1_hasRoomFor 32 = .ok (.ladd, 1) := by decide +kernel
theorem dX1_hasRoomFor_33 : decode cX1_hasRoomFor 33 = .ok (.aload_n 0, 1) := by decide +kernel
theorem dX1_hasRoomFor_34 : decode cX1_hasRoomFor 34 = .ok (.getfield 15, 3) := by decide +kernel
theorem dX1_hasRoomFor_37 : decode cX1_hasRoomFor 37 = .ok (.lcmp, 1) := by decide +kernel
theorem dX1_hasRoomFor_38 : decode cX1_hasRoomFor 38 = .ok (.ifCond .gt 7, 3) := by decide +kernel
theorem dX1_hasRoomFor_41 : decode cX1_hasRoomFor 41 = .ok (.iconst 1, 1) := by decide +kernel
theorem dX1_hasRoomFor_42 : decode cX1_hasRoomFor 42 = .ok (.goto 4, 3) := by decide +kernel
theorem dX1_hasRoomFor_45 : decode cX1_hasRoomFor 45 = .ok (.iconst 0, 1) := by decide +kernel
theorem dX1_hasRoomFor_46 : decode cX1_hasRoomFor 46 = .ok (.ireturn, 1) := by decide +kernel
theorem dX1_takeOn_0 : decode cX1_takeOn 0 = .ok (.aload_n 0, 1) := by decide +kernel
theorem dX1_takeOn_1 : decode cX1_takeOn 1 = .ok (.getfield 18, 3) := by decide +kernel
theorem dX1_takeOn_4 : decode cX1_takeOn 4 = .ok (.istore_n 3, 1) := by decide +kernel
theorem dX1_takeOn_5 : decode cX1_takeOn 5 = .ok (.aload_n 0, 1) := by decide +kernel
theorem dX1_takeOn_6 : decode cX1_takeOn 6 = .ok (.dup, 1) := by decide +kernel
theorem dX1_takeOn_7 : decode cX1_takeOn 7 = .ok (.getfield 22, 3) := by decide +kernel
theorem dX1_takeOn_10 : decode cX1_takeOn 10 = .ok (.lload_n 1, 1) := by decide +kernel
theorem dX1_takeOn_11 : decode cX1_takeOn 11 = .ok (.ladd, 1) := by decide +kernel
theorem dX1_takeOn_12 : decode cX1_takeOn 12 = .ok (.putfield 22, 3) := by decide +kernel
theorem dX1_takeOn_15 : decode cX1_takeOn 15 = .ok (.aload_n 0, 1) := by decide +kernel
theorem dX1_takeOn_16 : decode cX1_takeOn 16 = .ok (.dup, 1) := by decide +kernel
theorem dX1_takeOn_17 : decode cX1_takeOn 17 = .ok (.getfield 25, 3) := by decide +kernel
theorem dX1_takeOn_20 : decode cX1_takeOn 20 = .ok (.aload_n 0, 1) := by decide +kernel
theorem dX1_takeOn_21 : decode cX1_takeOn 21 = .ok (.lload_n 1, 1) := by decide +kernel
theorem dX1_takeOn_22 : decode cX1_takeOn 22 = .ok (.invokevirtual 28, 3) := by decide +kernel
theorem dX1_takeOn_25 : decode cX1_takeOn 25 = .ok (.ladd, 1) := by decide +kernel
theorem dX1_takeOn_26 : decode cX1_takeOn 26 = .ok (.putfield 25, 3) := by decide +kernel
theorem dX1_takeOn_29 : decode cX1_takeOn 29 = .ok (.aload_n 0, 1) := by decide +kernel
theorem dX1_takeOn_30 : decode cX1_takeOn 30 = .ok (.dup, 1) := by decide +kernel
theorem dX1_takeOn_31 : decode cX1_takeOn 31 = .ok (.getfield 18, 3) := by decide +kernel
theorem dX1_takeOn_34 : decode cX1_takeOn 34 = .ok (.iconst 1, 1) := by decide +kernel
theorem dX1_takeOn_35 : decode cX1_takeOn 35 = .ok (.iadd, 1) := by decide +kernel
theorem dX1_takeOn_36 : decode cX1_takeOn 36 = .ok (.putfield 18, 3) := by decide +kernel
theorem dX1_takeOn_39 : decode cX1_takeOn 39 = .ok (.iload_n 3, 1) := by decide +kernel
theorem dX1_takeOn_40 : decode cX1_takeOn 40 = .ok (.ireturn, 1) := by decide +kernel
theorem dX1_momentOfNext_0 : decode cX1_momentOfNext 0 = .ok (.lload_n 1, 1) := by decide +kernel
theorem dX1_momentOfNext_1 : decode cX1_momentOfNext 1 = .ok (.aload_n 0, 1) := by decide +kernel
theorem dX1_momentOfNext_2 : decode cX1_momentOfNext 2 = .ok (.getfield 18, 3) := by decide +kernel
theorem dX1_momentOfNext_5 : decode cX1_momentOfNext 5 = .ok (.iconst 1, 1) := by decide +kernel
theorem dX1_momentOfNext_6 : decode cX1_momentOfNext 6 = .ok (.iadd, 1) := by decide +kernel
theorem dX1_momentOfNext_7 : decode cX1_momentOfNext 7 = .ok (.i2l, 1) := by decide +kernel
theorem dX1_momentOfNext_8 : decode cX1_momentOfNext 8 = .ok (.lmul, 1) := by decide +kernel
theorem dX1_momentOfNext_9 : decode cX1_momentOfNext 9 = .ok (.lreturn, 1) := by decide +kernel
theorem dX2_init_0 : decode cX2_init 0 = .ok (.aload_n 0, 1) := by decide +kernel
theorem dX2_init_1 : decode cX2_init 1 = .ok (.invokespecial 1, 3) := by decide +kernel
theorem dX2_init_4 : decode cX2_init 4 = .ok (.aload_n 0, 1) := by decide +kernel
theorem dX2_init_5 : decode cX2_init 5 = .ok (.iload_n 1, 1) := by decide +kernel
theorem dX2_init_6 : decode cX2_init 6 = .ok (.putfield 7, 3) := by decide +kernel
theorem dX2_init_9 : decode cX2_init 9 = .ok (.aload_n 0, 1) := by decide +kernel
theorem dX2_init_10 : decode cX2_init 10 = .ok (.iload_n 2, 1) := by decide +kernel
theorem dX2_init_11 : decode cX2_init 11 = .ok (.putfield 13, 3) := by decide +kernel
theorem dX2_init_14 : decode cX2_init 14 = .ok (.return_, 1) := by decide +kernel
theorem dX3_init_0 : decode cX3_init 0 = .ok (.aload_n 0, 1) := by decide +kernel
theorem dX3_init_1 : decode cX3_init 1 = .ok (.invokespecial 1, 3) := by decide +kernel
theorem dX3_init_4 : decode cX3_init 4 = .ok (.aload_n 0, 1) := by decide +kernel
theorem dX3_init_5 : decode cX3_init 5 = .ok (.sipush 200, 3) := by decide +kernel
theorem dX3_init_8 : decode cX3_init 8 = .ok (.newarray .long, 2) := by decide +kernel
theorem dX3_init_10 : decode cX3_init 10 = .ok (.putfield 9, 3) := by decide +kernel
theorem dX3_init_13 : decode cX3_init 13 = .ok (.aload_n 0, 1) := by decide +kernel
theorem dX3_init_14 : decode cX3_init 14 = .ok (.sipush 200, 3) := by decide +kernel
theorem dX3_init_17 : decode cX3_init 17 = .ok (.newarray .int, 2) := by decide +kernel
theorem dX3_init_19 : decode cX3_init 19 = .ok (.putfield 13, 3) := by decide +kernel
theorem dX3_init_22 : decode cX3_init 22 = .ok (.aload_n 0, 1) := by decide +kernel
theorem dX3_init_23 : decode cX3_init 23 = .ok (.sipush 200, 3) := by decide +kernel
theorem dX3_init_26 : decode cX3_init 26 = .ok (.newarray .long, 2) := by decide +kernel
theorem dX3_init_28 : decode cX3_init 28 = .ok (.putfield 17, 3) := by decide +kernel
theorem dX3_init_31 : decode cX3_init 31 = .ok (.aload_n 0, 1) := by decide +kernel
theorem dX3_init_32 : decode cX3_init 32 = .ok (.bipush 12, 2) := by decide +kernel
theorem dX3_init_34 : decode cX3_init 34 = .ok (.anewarray 20, 3) := by decide +kernel
theorem dX3_init_37 : decode cX3_init 37 = .ok (.putfield 22, 3) := by decide +kernel
theorem dX3_init_40 : decode cX3_init 40 = .ok (.aload_n 0, 1) := by decide +kernel
theorem dX3_init_41 : decode cX3_init 41 = .ok (.bipush 6, 2) := by decide +kernel
theorem dX3_init_43 : decode cX3_init 43 = .ok (.newarray .double, 2) := by decide +kernel
theorem dX3_init_45 : decode cX3_init 45 = .ok (.putfield 26, 3) := by decide +kernel
theorem dX3_init_48 : decode cX3_init 48 = .ok (.aload_n 0, 1) := by decide +kernel
theorem dX3_init_49 : decode cX3_init 49 = .ok (.bipush 6, 2) := by decide +kernel
theorem dX3_init_51 : decode cX3_init 51 = .ok (.newarray .double, 2) := by decide +kernel
theorem dX3_init_53 : decode cX3_init 53 = .ok (.putfield 30, 3) := by decide +kernel
theorem dX3_init_56 : decode cX3_init 56 = .ok (.aload_n 0, 1) := by decide +kernel
theorem dX3_init_57 : decode cX3_init 57 = .ok (.iconst 4, 1) := by decide +kernel
theorem dX3_init_58 : decode cX3_init 58 = .ok (.anewarray 33, 3) := by decide +kernel
theorem dX3_init_61 : decode cX3_init 61 = .ok (.putfield 35, 3) := by decide +kernel
theorem dX3_init_64 : decode cX3_init 64 = .ok (.aload_n 0, 1) := by decide +kernel
theorem dX3_init_65 : decode cX3_init 65 = .ok (.iconst 3, 1) := by decide +kernel
theorem dX3_init_66 : decode cX3_init 66 = .ok (.anewarray 39, 3) := by decide +kernel
theorem dX3_init_69 : decode cX3_init 69 = .ok (.putfield 41, 3) := by decide +kernel
theorem dX3_init_72 : decode cX3_init 72 = .ok (.aload_n 0, 1) := by decide +kernel
theorem dX3_init_73 : decode cX3_init 73 = .ok (.new 45, 3) := by decide +kernel
theorem dX3_init_76 : decode cX3_init 76 = .ok (.dup, 1) := by decide +kernel
theorem dX3_init_77 : decode cX3_init 77 = .ok (.invokespecial 47, 3) := by decide +kernel
theorem dX3_init_80 : decode cX3_init 80 = .ok (.putfield 48, 3) := by decide +kernel
theorem dX3_init_83 : decode cX3_init 83 = .ok (.aload_n 0, 1) := by decide +kernel
theorem dX3_init_84 : decode cX3_init 84 = .ok (.iconst 1, 1) := by decide +kernel
theorem dX3_init_85 : decode cX3_init 85 = .ok (.putfield 52, 3) := by decide +kernel
theorem dX3_init_88 : decode cX3_init 88 = .ok (.return_, 1) := by decide +kernel
theorem dX3_feed_0 : decode cX3_feed 0 = .ok (.aload_n 0, 1) := by decide +kernel
theorem dX3_feed_1 : decode cX3_feed 1 = .ok (.getfield 56, 3) := by decide +kernel
theorem dX3_feed_4 : decode cX3_feed 4 = .ok (.sipush 200, 3) := by decide +kernel
theorem dX3_feed_7 : decode cX3_feed 7 = .ok (.if_icmp .ge 10, 3) := by decide +kernel
theorem dX3_feed_10 : decode cX3_feed 10 = .ok (.iload_n 3, 1) := by decide +kernel
theorem dX3_feed_11 : decode cX3_feed 11 = .ok (.invokestatic 59, 3) := by decide +kernel
theorem dX3_feed_14 : decode cX3_feed 14 = .ok (.ifCond .ne 5, 3) := by decide +kernel
theorem dX3_feed_17 : decode cX3_feed 17 = .ok (.iconst 0, 1) := by decide +kernel
theorem dX3_feed_18 : decode cX3_feed 18 = .ok (.ireturn, 1) := by decide +kernel
theorem dX3_feed_19 : decode cX3_feed 19 = .ok (.lload_n 1, 1) := by decide +kernel
theorem dX3_feed_20 : decode cX3_feed 20 = .ok (.lconst 0, 1) := by decide +kernel
theorem dX3_feed_21 : decode cX3_feed 21 = .ok (.ldc2_w 63, 3) := by decide +kernel
theorem dX3_feed_24 : decode cX3_feed 24 = .ok (.invokestatic 65, 3) := by decide +kernel
theorem dX3_feed_27 : decode cX3_feed 27 = .ok (.ifCond .eq 15, 3) := by decide +kernel
theorem dX3_feed_30 : decode cX3_feed 30 = .ok (.lload 4, 2) := by decide +kernel
theorem dX3_feed_32 : decode cX3_feed 32 = .ok (.lconst 1, 1) := by decide +kernel
theorem dX3_feed_33 : decode cX3_feed 33 = .ok (.ldc2_w 69, 3) := by decide +kernel
theorem dX3_feed_36 : decode cX3_feed 36 = .ok (.invokestatic 65, 3) := by decide +kernel
theorem dX3_feed_39 : decode cX3_feed 39 = .ok (.ifCond .ne 5, 3) := by decide +kernel
theorem dX3_feed_42 : decode cX3_feed 42 = .ok (.iconst 0, 1) := by decide +kernel
theorem dX3_feed_43 : decode cX3_feed 43 = .ok (.ireturn, 1) := by decide +kernel
theorem dX3_feed_44 : decode cX3_feed 44 = .ok (.aload_n 0, 1) := by decide +kernel
theorem dX3_feed_45 : decode cX3_feed 45 = .ok (.getfield 56, 3) := by decide +kernel
theorem dX3_feed_48 : decode cX3_feed 48 = .ok (.ifCond .le 21, 3) := by decide +kernel
theorem dX3_feed_51 : decode cX3_feed 51 = .ok (.lload_n 1, 1) := by decide +kernel
theorem dX3_feed_52 : decode cX3_feed 52 = .ok (.aload_n 0, 1) := by decide +kernel
theorem dX3_feed_53 : decode cX3_feed 53 = .ok (.getfield 9, 3) := by decide +kernel
theorem dX3_feed_56 : decode cX3_feed 56 = .ok (.aload_n 0, 1) := by decide +kernel
theorem dX3_feed_57 : decode cX3_feed 57 = .ok (.getfield 56, 3) := by decide +kernel
theorem dX3_feed_60 : decode cX3_feed 60 = .ok (.iconst 1, 1) := by decide +kernel
theorem dX3_feed_61 : decode cX3_feed 61 = .ok (.isub, 1) := by decide +kernel
theorem dX3_feed_62 : decode cX3_feed 62 = .ok (.laload, 1) := by decide +kernel
theorem dX3_feed_63 : decode cX3_feed 63 = .ok (.lcmp, 1) := by decide +kernel
theorem dX3_feed_64 : decode cX3_feed 64 = .ok (.ifCond .ge 5, 3) := by decide +kernel
theorem dX3_feed_67 : decode cX3_feed 67 = .ok (.iconst 0, 1) := by decide +kernel
theorem dX3_feed_68 : decode cX3_feed 68 = .ok (.ireturn, 1) := by decide +kernel
theorem dX3_feed_69 : decode cX3_feed 69 = .ok (.aload_n 0, 1) := by decide +kernel
theorem dX3_feed_70 : decode cX3_feed 70 = .ok (.getfield 9, 3) := by decide +kernel
theorem dX3_feed_73 : decode cX3_feed 73 = .ok (.aload_n 0, 1) := by decide +kernel
theorem dX3_feed_74 : decode cX3_feed 74 = .ok (.getfield 56, 3) := by decide +kernel
theorem dX3_feed_77 : decode cX3_feed 77 = .ok (.lload_n 1, 1) := by decide +kernel
theorem dX3_feed_78 : decode cX3_feed 78 = .ok (.lastore, 1) := by decide +kernel
theorem dX3_feed_79 : decode cX3_feed 79 = .ok (.aload_n 0, 1) := by decide +kernel
theorem dX3_feed_80 : decode cX3_feed 80 = .ok (.getfield 13, 3) := by decide +kernel
theorem dX3_feed_83 : decode cX3_feed 83 = .ok (.aload_n 0, 1) := by decide +kernel
theorem dX3_feed_84 : decode cX3_feed 84 = .ok (.getfield 56, 3) := by decide +kernel
theorem dX3_feed_87 : decode cX3_feed 87 = .ok (.iload_n 3, 1) := by decide +kernel
theorem dX3_feed_88 : decode cX3_feed 88 = .ok (.iastore, 1) := by decide +kernel
theorem dX3_feed_89 : decode cX3_feed 89 = .ok (.aload_n 0, 1) := by decide +kernel
theorem dX3_feed_90 : decode cX3_feed 90 = .ok (.getfield 17, 3) := by decide +kernel
theorem dX3_feed_93 : decode cX3_feed 93 = .ok (.aload_n 0, 1) := by decide +kernel
theorem dX3_feed_94 : decode cX3_feed 94 = .ok (.getfield 56, 3) := by decide +kernel
theorem dX3_feed_97 : decode cX3_feed 97 = .ok (.lload 4, 2) := by decide +kernel
theorem dX3_feed_99 : decode cX3_feed 99 = .ok (.lastore, 1) := by decide +kernel
theorem dX3_feed_100 : decode cX3_feed 100 = .ok (.aload_n 0, 1) := by decide +kernel
theorem dX3_feed_101 : decode cX3_feed 101 = .ok (.dup, 1) := by decide +kernel
theorem dX3_feed_102 : decode cX3_feed 102 = .ok (.getfield 56, 3) := by decide +kernel
theorem dX3_feed_105 : decode cX3_feed 105 = .ok (.iconst 1, 1) := by decide +kernel
theorem dX3_feed_106 : decode cX3_feed 106 = .ok (.iadd, 1) := by decide +kernel
theorem dX3_feed_107 : decode cX3_feed 107 = .ok (.putfield 56, 3) := by decide +kernel
theorem dX3_feed_110 : decode cX3_feed 110 = .ok (.iconst 1, 1) := by decide +kernel
theorem dX3_feed_111 : decode cX3_feed 111 = .ok (.ireturn, 1) := by decide +kernel
theorem dX3_bale_0 : decode cX3_bale 0 = .ok (.aload_n 0, 1) := by decide +kernel
theorem dX3_bale_1 : decode cX3_bale 1 = .ok (.getfield 71, 3) := by decide +kernel
theorem dX3_bale_4 : decode cX3_bale 4 = .ok (.istore_n 3, 1) := by decide +kernel
theorem dX3_bale_5 : decode cX3_bale 5 = .ok (.iload_n 3, 1) := by decide +kernel
theorem dX3_bale_6 : decode cX3_bale 6 = .ok (.aload_n 0, 1) := by decide +kernel
theorem dX3_bale_7 : decode cX3_bale 7 = .ok (.getfield 56, 3) := by decide +kernel
theorem dX3_bale_10 : decode cX3_bale 10 = .ok (.if_icmp .ge 20, 3) := by decide +kernel
theorem dX3_bale_13 : decode cX3_bale 13 = .ok (.aload_n 0, 1) := by decide +kernel
theorem dX3_bale_14 : decode cX3_bale 14 = .ok (.getfield 9, 3) := by decide +kernel
theorem dX3_bale_17 : decode cX3_bale 17 = .ok (.iload_n 3, 1) := by decide +kernel
theorem dX3_bale_18 : decode cX3_bale 18 = .ok (.laload, 1) := by decide +kernel
theorem dX3_bale_19 : decode cX3_bale 19 = .ok (.lload_n 1, 1) := by decide +kernel
theorem dX3_bale_20 : decode cX3_bale 20 = .ok (.lcmp, 1) := by decide +kernel
theorem dX3_bale_21 : decode cX3_bale 21 = .ok (.ifCond .gt 9, 3) := by decide +kernel
theorem dX3_bale_24 : decode cX3_bale 24 = .ok (.iinc 3 1, 3) := by decide +kernel
theorem dX3_bale_27 : decode cX3_bale 27 = .ok (.goto (-22), 3) := by decide +kernel
theorem dX3_bale_30 : decode cX3_bale 30 = .ok (.aload_n 0, 1) := by decide +kernel
theorem dX3_bale_31 : decode cX3_bale 31 = .ok (.getfield 74, 3) := by decide +kernel
theorem dX3_bale_34 : decode cX3_bale 34 = .ok (.bipush 12, 2) := by decide +kernel
theorem dX3_bale_36 : decode cX3_bale 36 = .ok (.if_icmp .ge 11, 3) := by decide +kernel
theorem dX3_bale_39 : decode cX3_bale 39 = .ok (.iload_n 3, 1) := by decide +kernel
theorem dX3_bale_40 : decode cX3_bale 40 = .ok (.aload_n 0, 1) := by decide +kernel
theorem dX3_bale_41 : decode cX3_bale 41 = .ok (.getfield 71, 3) := by decide +kernel
theorem dX3_bale_44 : decode cX3_bale 44 = .ok (.if_icmp .ne 5, 3) := by decide +kernel
theorem dX3_bale_47 : decode cX3_bale 47 = .ok (.iconst (-1), 1) := by decide +kernel
theorem dX3_bale_48 : decode cX3_bale 48 = .ok (.ireturn, 1) := by decide +kernel
theorem dX3_bale_49 : decode cX3_bale 49 = .ok (.new 20, 3) := by decide +kernel
theorem dX3_bale_52 : decode cX3_bale 52 = .ok (.dup, 1) := by decide +kernel
theorem dX3_bale_53 : decode cX3_bale 53 = .ok (.invokespecial 77, 3) := by decide +kernel
theorem dX3_bale_56 : decode cX3_bale 56 = .ok (.astore 4, 2) := by decide +kernel
theorem dX3_bale_58 : decode cX3_bale 58 = .ok (.aload_n 0, 1) := by decide +kernel
theorem dX3_bale_59 : decode cX3_bale 59 = .ok (.getfield 71, 3) := by decide +kernel
theorem dX3_bale_62 : decode cX3_bale 62 = .ok (.istore 5, 2) := by decide +kernel
theorem dX3_bale_64 : decode cX3_bale 64 = .ok (.iload 5, 2) := by decide +kernel
theorem dX3_bale_66 : decode cX3_bale 66 = .ok (.iload_n 3, 1) := by decide +kernel
theorem dX3_bale_67 : decode cX3_bale 67 = .ok (.if_icmp .ge 28, 3) := by decide +kernel
theorem dX3_bale_70 : decode cX3_bale 70 = .ok (.aload 4, 2) := by decide +kernel
theorem dX3_bale_72 : decode cX3_bale 72 = .ok (.aload_n 0, 1) := by decide +kernel
theorem dX3_bale_73 : decode cX3_bale 73 = .ok (.getfield 13, 3) := by decide +kernel
theorem dX3_bale_76 : decode cX3_bale 76 = .ok (.iload 5, 2) := by decide +kernel
theorem dX3_bale_78 : decode cX3_bale 78 = .ok (.iaload, 1) := by decide +kernel
theorem dX3_bale_79 : decode cX3_bale 79 = .ok (.aload_n 0, 1) := by decide +kernel
theorem dX3_bale_80 : decode cX3_bale 80 = .ok (.getfield 17, 3) := by decide +kernel
theorem dX3_bale_83 : decode cX3_bale 83 = .ok (.iload 5, 2) := by decide +kernel
theorem dX3_bale_85 : decode cX3_bale 85 = .ok (.laload, 1) := by decide +kernel
theorem dX3_bale_86 : decode cX3_bale 86 = .ok (.invokevirtual 78, 3) := by decide +kernel
theorem dX3_bale_89 : decode cX3_bale 89 = .ok (.iinc 5 1, 3) := by decide +kernel
theorem dX3_bale_92 : decode cX3_bale 92 = .ok (.goto (-28), 3) := by decide +kernel
theorem dX3_bale_95 : decode cX3_bale 95 = .ok (.aload_n 0, 1) := by decide +kernel
theorem dX3_bale_96 : decode cX3_bale 96 = .ok (.iload_n 3, 1) := by decide +kernel
theorem dX3_bale_97 : decode cX3_bale 97 = .ok (.putfield 71, 3) := by decide +kernel
theorem dX3_bale_100 : decode cX3_bale 100 = .ok (.aload_n 0, 1) := by decide +kernel
theorem dX3_bale_101 : decode cX3_bale 101 = .ok (.aload 4, 2) := by decide +kernel
theorem dX3_bale_103 : decode cX3_bale 103 = .ok (.invokevirtual 82, 3) := by decide +kernel
theorem dX3_bale_106 : decode cX3_bale 106 = .ok (.ireturn, 1) := by decide +kernel
theorem dX3_in_0 : decode cX3_in 0 = .ok (.aload_n 0, 1) := by decide +kernel
theorem dX3_in_1 : decode cX3_in 1 = .ok (.iload_n 1, 1) := by decide +kernel
theorem dX3_in_2 : decode cX3_in 2 = .ok (.invokevirtual 86, 3) := by decide +kernel
theorem dX3_in_5 : decode cX3_in 5 = .ok (.astore_n 3, 1) := by decide +kernel
theorem dX3_in_6 : decode cX3_in 6 = .ok (.aload_n 3, 1) := by decide +kernel
theorem dX3_in_7 : decode cX3_in 7 = .ok (.ifnull 10, 3) := by decide +kernel
theorem dX3_in_10 : decode cX3_in 10 = .ok (.iload_n 2, 1) := by decide +kernel
theorem dX3_in_11 : decode cX3_in 11 = .ok (.invokestatic 59, 3) := by decide +kernel
theorem dX3_in_14 : decode cX3_in 14 = .ok (.ifCond .ne 7, 3) := by decide +kernel
theorem dX3_in_17 : decode cX3_in 17 = .ok (.ldc2_w 90, 3) := by decide +kernel
theorem dX3_in_20 : decode cX3_in 20 = .ok (.lreturn, 1) := by decide +kernel
theorem dX3_in_21 : decode cX3_in 21 = .ok (.aload_n 3, 1) := by decide +kernel
theorem dX3_in_22 : decode cX3_in 22 = .ok (.iload_n 2, 1) := by decide +kernel
theorem dX3_in_23 : decode cX3_in 23 = .ok (.invokevirtual 92, 3) := by decide +kernel
theorem dX3_in_26 : decode cX3_in 26 = .ok (.lreturn, 1) := by decide +kernel
theorem dX3_count_0 : decode cX3_count 0 = .ok (.iload_n 1, 1) := by decide +kernel
theorem dX3_count_1 : decode cX3_count 1 = .ok (.invokestatic 59, 3) := by decide +kernel
theorem dX3_count_4 : decode cX3_count 4 = .ok (.ifCond .ne 7, 3) := by decide +kernel
theorem dX3_count_7 : decode cX3_count 7 = .ok (.ldc2_w 90, 3) := by decide +kernel
theorem dX3_count_10 : decode cX3_count 10 = .ok (.lreturn, 1) := by decide +kernel
theorem dX3_count_11 : decode cX3_count 11 = .ok (.lconst 0, 1) := by decide +kernel
theorem dX3_count_12 : decode cX3_count 12 = .ok (.lstore_n 2, 1) := by decide +kernel
theorem dX3_count_13 : decode cX3_count 13 = .ok (.aload_n 0, 1) := by decide +kernel
theorem dX3_count_14 : decode cX3_count 14 = .ok (.getfield 71, 3) := by decide +kernel
theorem dX3_count_17 : decode cX3_count 17 = .ok (.istore 4, 2) := by decide +kernel
theorem dX3_count_19 : decode cX3_count 19 = .ok (.iload 4, 2) := by decide +kernel
theorem dX3_count_21 : decode cX3_count 21 = .ok (.aload_n 0, 1) := by decide +kernel
theorem dX3_count_22 : decode cX3_count 22 = .ok (.getfield 56, 3) := by decide +kernel
theorem dX3_count_25 : decode cX3_count 25 = .ok (.if_icmp .ge 30, 3) := by decide +kernel
theorem dX3_count_28 : decode cX3_count 28 = .ok (.aload_n 0, 1) := by decide +kernel
theorem dX3_count_29 : decode cX3_count 29 = .ok (.getfield 13, 3) := by decide +kernel
theorem dX3_count_32 : decode cX3_count 32 = .ok (.iload 4, 2) := by decide +kernel
theorem dX3_count_34 : decode cX3_count 34 = .ok (.iaload, 1) := by decide +kernel
theorem dX3_count_35 : decode cX3_count 35 = .ok (.iload_n 1, 1) := by decide +kernel
theorem dX3_count_36 : decode cX3_count 36 = .ok (.if_icmp .ne 13, 3) := by decide +kernel
theorem dX3_count_39 : decode cX3_count 39 = .ok (.lload_n 2, 1) := by decide +kernel
theorem dX3_count_40 : decode cX3_count 40 = .ok (.aload_n 0, 1) := by decide +kernel
theorem dX3_count_41 : decode cX3_count 41 = .ok (.getfield 17, 3) := by decide +kernel
theorem dX3_count_44 : decode cX3_count 44 = .ok (.iload 4, 2) := by decide +kernel
theorem dX3_count_46 : decode cX3_count 46 = .ok (.laload, 1) := by decide +kernel
theorem dX3_count_47 : decode cX3_count 47 = .ok (.ladd, 1) := by decide +kernel
theorem dX3_count_48 : decode cX3_count 48 = .ok (.lstore_n 2, 1) := by decide +kernel
theorem dX3_count_49 : decode cX3_count 49 = .ok (.iinc 4 1, 3) := by decide +kernel
theorem dX3_count_52 : decode cX3_count 52 = .ok (.goto (-33), 3) := by decide +kernel
theorem dX3_count_55 : decode cX3_count 55 = .ok (.lload_n 2, 1) := by decide +kernel
theorem dX3_count_56 : decode cX3_count 56 = .ok (.lreturn, 1) := by decide +kernel
theorem dX3_wires_0 : decode cX3_wires 0 = .ok (.aload_n 0, 1) := by decide +kernel
theorem dX3_wires_1 : decode cX3_wires 1 = .ok (.iload_n 1, 1) := by decide +kernel
theorem dX3_wires_2 : decode cX3_wires 2 = .ok (.invokevirtual 86, 3) := by decide +kernel
theorem dX3_wires_5 : decode cX3_wires 5 = .ok (.astore_n 2, 1) := by decide +kernel
theorem dX3_wires_6 : decode cX3_wires 6 = .ok (.aload_n 2, 1) := by decide +kernel
theorem dX3_wires_7 : decode cX3_wires 7 = .ok (.ifnonnull 5, 3) := by decide +kernel
theorem dX3_wires_10 : decode cX3_wires 10 = .ok (.iconst (-1), 1) := by decide +kernel
theorem dX3_wires_11 : decode cX3_wires 11 = .ok (.ireturn, 1) := by decide +kernel
theorem dX3_wires_12 : decode cX3_wires 12 = .ok (.aload_n 2, 1) := by decide +kernel
theorem dX3_wires_13 : decode cX3_wires 13 = .ok (.invokevirtual 96, 3) := by decide +kernel
theorem dX3_wires_16 : decode cX3_wires 16 = .ok (.ldc2_w 100, 3) := by decide +kernel
theorem dX3_wires_19 : decode cX3_wires 19 = .ok (.ladd, 1) := by decide +kernel
theorem dX3_wires_20 : decode cX3_wires 20 = .ok (.lconst 1, 1) := by decide +kernel
theorem dX3_wires_21 : decode cX3_wires 21 = .ok (.lsub, 1) := by decide +kernel
theorem dX3_wires_22 : decode cX3_wires 22 = .ok (.ldc2_w 100, 3) := by decide +kernel
theorem dX3_wires_25 : decode cX3_wires 25 = .ok (.ldiv, 1) := by decide +kernel
theorem dX3_wires_26 : decode cX3_wires 26 = .ok (.lstore_n 3, 1) := by decide +kernel
theorem dX3_wires_27 : decode cX3_wires 27 = .ok (.lload_n 3, 1) := by decide +kernel
theorem dX3_wires_28 : decode cX3_wires 28 = .ok (.ldc2_w 102, 3) := by decide +kernel
theorem dX3_wires_31 : decode cX3_wires 31 = .ok (.lcmp, 1) := by decide +kernel
theorem dX3_wires_32 : decode cX3_wires 32 = .ok (.ifCond .ge 7, 3) := by decide +kernel
theorem dX3_wires_35 : decode cX3_wires 35 = .ok (.iconst 3, 1) := by decide +kernel
theorem dX3_wires_36 : decode cX3_wires 36 = .ok (.goto 5, 3) := by decide +kernel
theorem dX3_wires_39 : decode cX3_wires 39 = .ok (.lload_n 3, 1) := by decide +kernel
theorem dX3_wires_40 : decode cX3_wires 40 = .ok (.l2i, 1) := by decide +kernel
theorem dX3_wires_41 : decode cX3_wires 41 = .ok (.ireturn, 1) := by decide +kernel
theorem dX3_size_0 : decode cX3_size 0 = .ok (.aload_n 0, 1) := by decide +kernel
theorem dX3_size_1 : decode cX3_size 1 = .ok (.iload_n 1, 1) := by decide +kernel
theorem dX3_size_2 : decode cX3_size 2 = .ok (.invokevirtual 86, 3) := by decide +kernel
theorem dX3_size_5 : decode cX3_size 5 = .ok (.astore 4, 2) := by decide +kernel
theorem dX3_size_7 : decode cX3_size 7 = .ok (.aload 4, 2) := by decide +kernel
theorem dX3_size_9 : decode cX3_size 9 = .ok (.ifnull 14, 3) := by decide +kernel
theorem dX3_size_12 : decode cX3_size 12 = .ok (.dload_n 2, 1) := by decide +kernel
theorem dX3_size_13 : decode cX3_size 13 = .ok (.dconst 1, 1) := by decide +kernel
theorem dX3_size_14 : decode cX3_size 14 = .ok (.ldc2_w 104, 3) := by decide +kernel
theorem dX3_size_17 : decode cX3_size 17 = .ok (.invokestatic 106, 3) := by decide +kernel
theorem dX3_size_20 : decode cX3_size 20 = .ok (.ifCond .ne 7, 3) := by decide +kernel
theorem dX3_size_23 : decode cX3_size 23 = .ok (.ldc2_w 110, 3) := by decide +kernel
theorem dX3_size_26 : decode cX3_size 26 = .ok (.dreturn, 1) := by decide +kernel
theorem dX3_size_27 : decode cX3_size 27 = .ok (.aload 4, 2) := by decide +kernel
theorem dX3_size_29 : decode cX3_size 29 = .ok (.invokevirtual 96, 3) := by decide +kernel
theorem dX3_size_32 : decode cX3_size 32 = .ok (.l2d, 1) := by decide +kernel
theorem dX3_size_33 : decode cX3_size 33 = .ok (.ldc2_w 112, 3) := by decide +kernel
theorem dX3_size_36 : decode cX3_size 36 = .ok (.dmul, 1) := by decide +kernel
theorem dX3_size_37 : decode cX3_size 37 = .ok (.dload_n 2, 1) := by decide +kernel
theorem dX3_size_38 : decode cX3_size 38 = .ok (.ddiv, 1) := by decide +kernel
theorem dX3_size_39 : decode cX3_size 39 = .ok (.dstore 5, 2) := by decide +kernel
theorem dX3_size_41 : decode cX3_size 41 = .ok (.dload 5, 2) := by decide +kernel
theorem dX3_size_43 : decode cX3_size 43 = .ok (.dload 5, 2) := by decide +kernel
theorem dX3_size_45 : decode cX3_size 45 = .ok (.ldc2_w 114, 3) := by decide +kernel
theorem dX3_size_48 : decode cX3_size 48 = .ok (.dmul, 1) := by decide +kernel
theorem dX3_size_49 : decode cX3_size 49 = .ok (.dadd, 1) := by decide +kernel
theorem dX3_size_50 : decode cX3_size 50 = .ok (.dreturn, 1) := by decide +kernel
theorem dX3_row_0 : decode cX3_row 0 = .ok (.aload_n 0, 1) := by decide +kernel
theorem dX3_row_1 : decode cX3_row 1 = .ok (.getfield 116, 3) := by decide +kernel
theorem dX3_row_4 : decode cX3_row 4 = .ok (.bipush 6, 2) := by decide +kernel
theorem dX3_row_6 : decode cX3_row 6 = .ok (.if_icmp .lt 5, 3) := by decide +kernel
theorem dX3_row_9 : decode cX3_row 9 = .ok (.iconst 0, 1) := by decide +kernel
theorem dX3_row_10 : decode cX3_row 10 = .ok (.ireturn, 1) := by decide +kernel
theorem dX3_row_11 : decode cX3_row 11 = .ok (.dload_n 1, 1) := by decide +kernel
theorem dX3_row_12 : decode cX3_row 12 = .ok (.ldc2_w 119, 3) := by decide +kernel
theorem dX3_row_15 : decode cX3_row 15 = .ok (.ldc2_w 121, 3) := by decide +kernel
theorem dX3_row_18 : decode cX3_row 18 = .ok (.invokestatic 106, 3) := by decide +kernel
theorem dX3_row_21 : decode cX3_row 21 = .ok (.ifCond .eq 14, 3) := by decide +kernel
theorem dX3_row_24 : decode cX3_row 24 = .ok (.dload_n 3, 1) := by decide +kernel
theorem dX3_row_25 : decode cX3_row 25 = .ok (.dconst 0, 1) := by decide +kernel
theorem dX3_row_26 : decode cX3_row 26 = .ok (.ldc2_w 123, 3) := by decide +kernel
theorem dX3_row_29 : decode cX3_row 29 = .ok (.invokestatic 106, 3) := by decide +kernel
theorem dX3_row_32 : decode cX3_row 32 = .ok (.ifCond .ne 5, 3) := by decide +kernel
theorem dX3_row_35 : decode cX3_row 35 = .ok (.iconst 0, 1) := by decide +kernel
theorem dX3_row_36 : decode cX3_row 36 = .ok (.ireturn, 1) := by decide +kernel
theorem dX3_row_37 : decode cX3_row 37 = .ok (.aload_n 0, 1) := by decide +kernel
theorem dX3_row_38 : decode cX3_row 38 = .ok (.getfield 116, 3) := by decide +kernel
theorem dX3_row_41 : decode cX3_row 41 = .ok (.ifCond .le 21, 3) := by decide +kernel
theorem dX3_row_44 : decode cX3_row 44 = .ok (.dload_n 1, 1) := by decide +kernel
theorem dX3_row_45 : decode cX3_row 45 = .ok (.aload_n 0, 1) := by decide +kernel
theorem dX3_row_46 : decode cX3_row 46 = .ok (.getfield 26, 3) := by decide +kernel
theorem dX3_row_49 : decode cX3_row 49 = .ok (.aload_n 0, 1) := by decide +kernel
theorem dX3_row_50 : decode cX3_row 50 = .ok (.getfield 116, 3) := by decide +kernel
theorem dX3_row_53 : decode cX3_row 53 = .ok (.iconst 1, 1) := by decide +kernel
theorem dX3_row_54 : decode cX3_row 54 = .ok (.isub, 1) := by decide +kernel
theorem dX3_row_55 : decode cX3_row 55 = .ok (.daload, 1) := by decide +kernel
theorem dX3_row_56 : decode cX3_row 56 = .ok (.dcmp .g, 1) := by decide +kernel
theorem dX3_row_57 : decode cX3_row 57 = .ok (.ifCond .gt 5, 3) := by decide +kernel
theorem dX3_row_60 : decode cX3_row 60 = .ok (.iconst 0, 1) := by decide +kernel
theorem dX3_row_61 : decode cX3_row 61 = .ok (.ireturn, 1) := by decide +kernel
theorem dX3_row_62 : decode cX3_row 62 = .ok (.aload_n 0, 1) := by decide +kernel
theorem dX3_row_63 : decode cX3_row 63 = .ok (.getfield 26, 3) := by decide +kernel
theorem dX3_row_66 : decode cX3_row 66 = .ok (.aload_n 0, 1) := by decide +kernel
theorem dX3_row_67 : decode cX3_row 67 = .ok (.getfield 116, 3) := by decide +kernel
theorem dX3_row_70 : decode cX3_row 70 = .ok (.dload_n 1, 1) := by decide +kernel
theorem dX3_row_71 : decode cX3_row 71 = .ok (.dastore, 1) := by decide +kernel
theorem dX3_row_72 : decode cX3_row 72 = .ok (.aload_n 0, 1) := by decide +kernel
theorem dX3_row_73 : decode cX3_row 73 = .ok (.getfield 30, 3) := by decide +kernel
theorem dX3_row_76 : decode cX3_row 76 = .ok (.aload_n 0, 1) := by decide +kernel
theorem dX3_row_77 : decode cX3_row 77 = .ok (.getfield 116, 3) := by decide +kernel
theorem dX3_row_80 : decode cX3_row 80 = .ok (.dload_n 3, 1) := by decide +kernel
theorem dX3_row_81 : decode cX3_row 81 = .ok (.dastore, 1) := by decide +kernel
theorem dX3_row_82 : decode cX3_row 82 = .ok (.aload_n 0, 1) := by decide +kernel
theorem dX3_row_83 : decode cX3_row 83 = .ok (.dup, 1) := by decide +kernel
theorem dX3_row_84 : decode cX3_row 84 = .ok (.getfield 116, 3) := by decide +kernel
theorem dX3_row_87 : decode cX3_row 87 = .ok (.iconst 1, 1) := by decide +kernel
theorem dX3_row_88 : decode cX3_row 88 = .ok (.iadd, 1) := by decide +kernel
theorem dX3_row_89 : decode cX3_row 89 = .ok (.putfield 116, 3) := by decide +kernel
theorem dX3_row_92 : decode cX3_row 92 = .ok (.iconst 1, 1) := by decide +kernel
theorem dX3_row_93 : decode cX3_row 93 = .ok (.ireturn, 1) := by decide +kernel
theorem dX3_warm_0 : decode cX3_warm 0 = .ok (.aload_n 0, 1) := by decide +kernel
theorem dX3_warm_1 : decode cX3_warm 1 = .ok (.iload_n 1, 1) := by decide +kernel
theorem dX3_warm_2 : decode cX3_warm 2 = .ok (.invokevirtual 86, 3) := by decide +kernel
theorem dX3_warm_5 : decode cX3_warm 5 = .ok (.astore 5, 2) := by decide +kernel
theorem dX3_warm_7 : decode cX3_warm 7 = .ok (.aload 5, 2) := by decide +kernel
theorem dX3_warm_9 : decode cX3_warm 9 = .ok (.ifnull 11, 3) := by decide +kernel
theorem dX3_warm_12 : decode cX3_warm 12 = .ok (.aload 5, 2) := by decide +kernel
theorem dX3_warm_14 : decode cX3_warm 14 = .ok (.invokevirtual 125, 3) := by decide +kernel
theorem dX3_warm_17 : decode cX3_warm 17 = .ok (.ifCond .eq 7, 3) := by decide +kernel
theorem dX3_warm_20 : decode cX3_warm 20 = .ok (.ldc2_w 129, 3) := by decide +kernel
theorem dX3_warm_23 : decode cX3_warm 23 = .ok (.dreturn, 1) := by decide +kernel
theorem dX3_warm_24 : decode cX3_warm 24 = .ok (.iload_n 2, 1) := by decide +kernel
theorem dX3_warm_25 : decode cX3_warm 25 = .ok (.i2l, 1) := by decide +kernel
theorem dX3_warm_26 : decode cX3_warm 26 = .ok (.lconst 0, 1) := by decide +kernel
theorem dX3_warm_27 : decode cX3_warm 27 = .ok (.ldc2_w 131, 3) := by decide +kernel
theorem dX3_warm_30 : decode cX3_warm 30 = .ok (.invokestatic 65, 3) := by decide +kernel
theorem dX3_warm_33 : decode cX3_warm 33 = .ok (.ifCond .eq 16, 3) := by decide +kernel
theorem dX3_warm_36 : decode cX3_warm 36 = .ok (.dload_n 3, 1) := by decide +kernel
theorem dX3_warm_37 : decode cX3_warm 37 = .ok (.ldc2_w 119, 3) := by decide +kernel
theorem dX3_warm_40 : decode cX3_warm 40 = .ok (.ldc2_w 133, 3) := by decide +kernel
theorem dX3_warm_43 : decode cX3_warm 43 = .ok (.invokestatic 106, 3) := by decide +kernel
theorem dX3_warm_46 : decode cX3_warm 46 = .ok (.ifCond .ne 7, 3) := by decide +kernel
theorem dX3_warm_49 : decode cX3_warm 49 = .ok (.ldc2_w 129, 3) := by decide +kernel
theorem dX3_warm_52 : decode cX3_warm 52 = .ok (.dreturn, 1) := by decide +kernel
theorem dX3_warm_53 : decode cX3_warm 53 = .ok (.iconst 0, 1) := by decide +kernel
theorem dX3_warm_54 : decode cX3_warm 54 = .ok (.istore 6, 2) := by decide +kernel
theorem dX3_warm_56 : decode cX3_warm 56 = .ok (.iload 6, 2) := by decide +kernel
theorem dX3_warm_58 : decode cX3_warm 58 = .ok (.iload_n 2, 1) := by decide +kernel
theorem dX3_warm_59 : decode cX3_warm 59 = .ok (.if_icmp .ge 24, 3) := by decide +kernel
theorem dX3_warm_62 : decode cX3_warm 62 = .ok (.aload 5, 2) := by decide +kernel
theorem dX3_warm_64 : decode cX3_warm 64 = .ok (.aload_n 0, 1) := by decide +kernel
theorem dX3_warm_65 : decode cX3_warm 65 = .ok (.aload 5, 2) := by decide +kernel
theorem dX3_warm_67 : decode cX3_warm 67 = .ok (.getfield 135, 3) := by decide +kernel
theorem dX3_warm_70 : decode cX3_warm 70 = .ok (.invokevirtual 139, 3) := by decide +kernel
theorem dX3_warm_73 : decode cX3_warm 73 = .ok (.dload_n 3, 1) := by decide +kernel
theorem dX3_warm_74 : decode cX3_warm 74 = .ok (.invokevirtual 143, 3) := by decide +kernel
theorem dX3_warm_77 : decode cX3_warm 77 = .ok (.iinc 6 1, 3) := by decide +kernel
theorem dX3_warm_80 : decode cX3_warm 80 = .ok (.goto (-24), 3) := by decide +kernel
theorem dX3_warm_83 : decode cX3_warm 83 = .ok (.aload 5, 2) := by decide +kernel
theorem dX3_warm_85 : decode cX3_warm 85 = .ok (.getfield 135, 3) := by decide +kernel
theorem dX3_warm_88 : decode cX3_warm 88 = .ok (.dreturn, 1) := by decide +kernel
theorem dX3_hold_0 : decode cX3_hold 0 = .ok (.iload_n 1, 1) := by decide +kernel
theorem dX3_hold_1 : decode cX3_hold 1 = .ok (.i2l, 1) := by decide +kernel
theorem dX3_hold_2 : decode cX3_hold 2 = .ok (.lconst 1, 1) := by decide +kernel
theorem dX3_hold_3 : decode cX3_hold 3 = .ok (.ldc2_w 147, 3) := by decide +kernel
theorem dX3_hold_6 : decode cX3_hold 6 = .ok (.invokestatic 65, 3) := by decide +kernel
theorem dX3_hold_9 : decode cX3_hold 9 = .ok (.ifCond .ne 5, 3) := by decide +kernel
theorem dX3_hold_12 : decode cX3_hold 12 = .ok (.iconst 0, 1) := by decide +kernel
theorem dX3_hold_13 : decode cX3_hold 13 = .ok (.ireturn, 1) := by decide +kernel
theorem dX3_hold_14 : decode cX3_hold 14 = .ok (.aload_n 0, 1) := by decide +kernel
theorem dX3_hold_15 : decode cX3_hold 15 = .ok (.iload_n 1, 1) := by decide +kernel
theorem dX3_hold_16 : decode cX3_hold 16 = .ok (.putfield 52, 3) := by decide +kernel
theorem dX3_hold_19 : decode cX3_hold 19 = .ok (.iconst 1, 1) := by decide +kernel
theorem dX3_hold_20 : decode cX3_hold 20 = .ok (.ireturn, 1) := by decide +kernel
theorem dX3_alarm_0 : decode cX3_alarm 0 = .ok (.iconst 0, 1) := by decide +kernel
theorem dX3_alarm_1 : decode cX3_alarm 1 = .ok (.istore_n 2, 1) := by decide +kernel
theorem dX3_alarm_2 : decode cX3_alarm 2 = .ok (.iconst 0, 1) := by decide +kernel
theorem dX3_alarm_3 : decode cX3_alarm 3 = .ok (.istore_n 3, 1) := by decide +kernel
theorem dX3_alarm_4 : decode cX3_alarm 4 = .ok (.iload_n 3, 1) := by decide +kernel
theorem dX3_alarm_5 : decode cX3_alarm 5 = .ok (.aload_n 0, 1) := by decide +kernel
theorem dX3_alarm_6 : decode cX3_alarm 6 = .ok (.getfield 74, 3) := by decide +kernel
theorem dX3_alarm_9 : decode cX3_alarm 9 = .ok (.if_icmp .ge 27, 3) := by decide +kernel
theorem dX3_alarm_12 : decode cX3_alarm 12 = .ok (.aload_n 0, 1) := by decide +kernel
theorem dX3_alarm_13 : decode cX3_alarm 13 = .ok (.iload_n 3, 1) := by decide +kernel
theorem dX3_alarm_14 : decode cX3_alarm 14 = .ok (.invokevirtual 149, 3) := by decide +kernel
theorem dX3_alarm_17 : decode cX3_alarm 17 = .ok (.ifCond .eq 13, 3) := by decide +kernel
theorem dX3_alarm_20 : decode cX3_alarm 20 = .ok (.iload_n 2, 1) := by decide +kernel
theorem dX3_alarm_21 : decode cX3_alarm 21 = .ok (.iload_n 1, 1) := by decide +kernel
theorem dX3_alarm_22 : decode cX3_alarm 22 = .ok (.if_icmp .ne 5, 3) := by decide +kernel
theorem dX3_alarm_25 : decode cX3_alarm 25 = .ok (.iload_n 3, 1) := by decide +kernel
theorem dX3_alarm_26 : decode cX3_alarm 26 = .ok (.ireturn, 1) := by decide +kernel
theorem dX3_alarm_27 : decode cX3_alarm 27 = .ok (.iinc 2 1, 3) := by decide +kernel
theorem dX3_alarm_30 : decode cX3_alarm 30 = .ok (.iinc 3 1, 3) := by decide +kernel
theorem dX3_alarm_33 : decode cX3_alarm 33 = .ok (.goto (-29), 3) := by decide +kernel
theorem dX3_alarm_36 : decode cX3_alarm 36 = .ok (.iconst (-1), 1) := by decide +kernel
theorem dX3_alarm_37 : decode cX3_alarm 37 = .ok (.ireturn, 1) := by decide +kernel
theorem dX3_stack_0 : decode cX3_stack 0 = .ok (.aload_n 0, 1) := by decide +kernel
theorem dX3_stack_1 : decode cX3_stack 1 = .ok (.getfield 152, 3) := by decide +kernel
theorem dX3_stack_4 : decode cX3_stack 4 = .ok (.iconst 4, 1) := by decide +kernel
theorem dX3_stack_5 : decode cX3_stack 5 = .ok (.if_icmp .ge 27, 3) := by decide +kernel
theorem dX3_stack_8 : decode cX3_stack 8 = .ok (.iload_n 1, 1) := by decide +kernel
theorem dX3_stack_9 : decode cX3_stack 9 = .ok (.i2l, 1) := by decide +kernel
theorem dX3_stack_10 : decode cX3_stack 10 = .ok (.lconst 0, 1) := by decide +kernel
theorem dX3_stack_11 : decode cX3_stack 11 = .ok (.ldc2_w 102, 3) := by decide +kernel
theorem dX3_stack_14 : decode cX3_stack 14 = .ok (.invokestatic 65, 3) := by decide +kernel
theorem dX3_stack_17 : decode cX3_stack 17 = .ok (.ifCond .eq 15, 3) := by decide +kernel
theorem dX3_stack_20 : decode cX3_stack 20 = .ok (.iload_n 2, 1) := by decide +kernel
theorem dX3_stack_21 : decode cX3_stack 21 = .ok (.i2l, 1) := by decide +kernel
theorem dX3_stack_22 : decode cX3_stack 22 = .ok (.lconst 1, 1) := by decide +kernel
theorem dX3_stack_23 : decode cX3_stack 23 = .ok (.ldc2_w 155, 3) := by decide +kernel
theorem dX3_stack_26 : decode cX3_stack 26 = .ok (.invokestatic 65, 3) := by decide +kernel
theorem dX3_stack_29 : decode cX3_stack 29 = .ok (.ifCond .ne 5, 3) := by decide +kernel
theorem dX3_stack_32 : decode cX3_stack 32 = .ok (.iconst (-1), 1) := by decide +kernel
theorem dX3_stack_33 : decode cX3_stack 33 = .ok (.ireturn, 1) := by decide +kernel
theorem dX3_stack_34 : decode cX3_stack 34 = .ok (.aload_n 0, 1) := by decide +kernel
theorem dX3_stack_35 : decode cX3_stack 35 = .ok (.getfield 35, 3) := by decide +kernel
theorem dX3_stack_38 : decode cX3_stack 38 = .ok (.aload_n 0, 1) := by decide +kernel
theorem dX3_stack_39 : decode cX3_stack 39 = .ok (.getfield 152, 3) := by decide +kernel
theorem dX3_stack_42 : decode cX3_stack 42 = .ok (.new 33, 3) := by decide +kernel
theorem dX3_stack_45 : decode cX3_stack 45 = .ok (.dup, 1) := by decide +kernel
theorem dX3_stack_46 : decode cX3_stack 46 = .ok (.iload_n 1, 1) := by decide +kernel
theorem dX3_stack_47 : decode cX3_stack 47 = .ok (.iload_n 2, 1) := by decide +kernel
theorem dX3_stack_48 : decode cX3_stack 48 = .ok (.invokespecial 157, 3) := by decide +kernel
theorem dX3_stack_51 : decode cX3_stack 51 = .ok (.aastore, 1) := by decide +kernel
theorem dX3_stack_52 : decode cX3_stack 52 = .ok (.aload_n 0, 1) := by decide +kernel
theorem dX3_stack_53 : decode cX3_stack 53 = .ok (.dup, 1) := by decide +kernel
theorem dX3_stack_54 : decode cX3_stack 54 = .ok (.getfield 152, 3) := by decide +kernel
theorem dX3_stack_57 : decode cX3_stack 57 = .ok (.iconst 1, 1) := by decide +kernel
theorem dX3_stack_58 : decode cX3_stack 58 = .ok (.iadd, 1) := by decide +kernel
theorem dX3_stack_59 : decode cX3_stack 59 = .ok (.putfield 152, 3) := by decide +kernel
theorem dX3_stack_62 : decode cX3_stack 62 = .ok (.aload_n 0, 1) := by decide +kernel
theorem dX3_stack_63 : decode cX3_stack 63 = .ok (.getfield 152, 3) := by decide +kernel
theorem dX3_stack_66 : decode cX3_stack 66 = .ok (.iconst 1, 1) := by decide +kernel
theorem dX3_stack_67 : decode cX3_stack 67 = .ok (.isub, 1) := by decide +kernel
theorem dX3_stack_68 : decode cX3_stack 68 = .ok (.ireturn, 1) := by decide +kernel
theorem dX3_put_0 : decode cX3_put 0 = .ok (.aload_n 0, 1) := by decide +kernel
theorem dX3_put_1 : decode cX3_put 1 = .ok (.iload_n 1, 1) := by decide +kernel
theorem dX3_put_2 : decode cX3_put 2 = .ok (.invokevirtual 86, 3) := by decide +kernel
theorem dX3_put_5 : decode cX3_put 5 = .ok (.astore_n 3, 1) := by decide +kernel
theorem dX3_put_6 : decode cX3_put 6 = .ok (.aload_n 0, 1) := by decide +kernel
theorem dX3_put_7 : decode cX3_put 7 = .ok (.iload_n 2, 1) := by decide +kernel
theorem dX3_put_8 : decode cX3_put 8 = .ok (.invokevirtual 160, 3) := by decide +kernel
theorem dX3_put_11 : decode cX3_put 11 = .ok (.astore 4, 2) := by decide +kernel
theorem dX3_put_13 : decode cX3_put 13 = .ok (.aload_n 3, 1) := by decide +kernel
theorem dX3_put_14 : decode cX3_put 14 = .ok (.ifnull 8, 3) := by decide +kernel
theorem dX3_put_17 : decode cX3_put 17 = .ok (.aload 4, 2) := by decide +kernel
theorem dX3_put_19 : decode cX3_put 19 = .ok (.ifnonnull 5, 3) := by decide +kernel
theorem dX3_put_22 : decode cX3_put 22 = .ok (.iconst 1, 1) := by decide +kernel
theorem dX3_put_23 : decode cX3_put 23 = .ok (.ireturn, 1) := by decide +kernel
theorem dX3_put_24 : decode cX3_put 24 = .ok (.aload_n 3, 1) := by decide +kernel
theorem dX3_put_25 : decode cX3_put 25 = .ok (.getfield 164, 3) := by decide +kernel
theorem dX3_put_28 : decode cX3_put 28 = .ok (.ifCond .eq 5, 3) := by decide +kernel
theorem dX3_put_31 : decode cX3_put 31 = .ok (.iconst 2, 1) := by decide +kernel
theorem dX3_put_32 : decode cX3_put 32 = .ok (.ireturn, 1) := by decide +kernel
theorem dX3_put_33 : decode cX3_put 33 = .ok (.aload_n 0, 1) := by decide +kernel
theorem dX3_put_34 : decode cX3_put 34 = .ok (.iload_n 2, 1) := by decide +kernel
theorem dX3_put_35 : decode cX3_put 35 = .ok (.invokevirtual 167, 3) := by decide +kernel
theorem dX3_put_38 : decode cX3_put 38 = .ok (.aload 4, 2) := by decide +kernel
theorem dX3_put_40 : decode cX3_put 40 = .ok (.getfield 171, 3) := by decide +kernel
theorem dX3_put_43 : decode cX3_put 43 = .ok (.if_icmp .lt 5, 3) := by decide +kernel
theorem dX3_put_46 : decode cX3_put 46 = .ok (.iconst 3, 1) := by decide +kernel
theorem dX3_put_47 : decode cX3_put 47 = .ok (.ireturn, 1) := by decide +kernel
theorem dX3_put_48 : decode cX3_put 48 = .ok (.aload_n 3, 1) := by decide +kernel
theorem dX3_put_49 : decode cX3_put 49 = .ok (.invokevirtual 174, 3) := by decide +kernel
theorem dX3_put_52 : decode cX3_put 52 = .ok (.ifCond .eq 5, 3) := by decide +kernel
theorem dX3_put_55 : decode cX3_put 55 = .ok (.iconst 4, 1) := by decide +kernel
theorem dX3_put_56 : decode cX3_put 56 = .ok (.ireturn, 1) := by decide +kernel
theorem dX3_put_57 : decode cX3_put 57 = .ok (.aload_n 0, 1) := by decide +kernel
theorem dX3_put_58 : decode cX3_put 58 = .ok (.iload_n 2, 1) := by decide +kernel
theorem dX3_put_59 : decode cX3_put 59 = .ok (.aload_n 3, 1) := by decide +kernel
theorem dX3_put_60 : decode cX3_put 60 = .ok (.invokevirtual 177, 3) := by decide +kernel
theorem dX3_put_63 : decode cX3_put 63 = .ok (.invokevirtual 181, 3) := by decide +kernel
theorem dX3_put_66 : decode cX3_put 66 = .ok (.ifCond .eq 5, 3) := by decide +kernel
theorem dX3_put_69 : decode cX3_put 69 = .ok (.iconst 5, 1) := by decide +kernel
theorem dX3_put_70 : decode cX3_put 70 = .ok (.ireturn, 1) := by decide +kernel
theorem dX3_put_71 : decode cX3_put 71 = .ok (.aload_n 0, 1) := by decide +kernel
theorem dX3_put_72 : decode cX3_put 72 = .ok (.iload_n 2, 1) := by decide +kernel
theorem dX3_put_73 : decode cX3_put 73 = .ok (.invokevirtual 185, 3) := by decide +kernel
theorem dX3_put_76 : decode cX3_put 76 = .ok (.aload_n 3, 1) := by decide +kernel
theorem dX3_put_77 : decode cX3_put 77 = .ok (.invokevirtual 96, 3) := by decide +kernel
theorem dX3_put_80 : decode cX3_put 80 = .ok (.ladd, 1) := by decide +kernel
theorem dX3_put_81 : decode cX3_put 81 = .ok (.ldc2_w 69, 3) := by decide +kernel
theorem dX3_put_84 : decode cX3_put 84 = .ok (.lcmp, 1) := by decide +kernel
theorem dX3_put_85 : decode cX3_put 85 = .ok (.ifCond .le 6, 3) := by decide +kernel
theorem dX3_put_88 : decode cX3_put 88 = .ok (.bipush 6, 2) := by decide +kernel
theorem dX3_put_90 : decode cX3_put 90 = .ok (.ireturn, 1) := by decide +kernel
theorem dX3_put_91 : decode cX3_put 91 = .ok (.aload_n 3, 1) := by decide +kernel
theorem dX3_put_92 : decode cX3_put 92 = .ok (.iconst 1, 1) := by decide +kernel
theorem dX3_put_93 : decode cX3_put 93 = .ok (.putfield 164, 3) := by decide +kernel
theorem dX3_put_96 : decode cX3_put 96 = .ok (.aload_n 3, 1) := by decide +kernel
theorem dX3_put_97 : decode cX3_put 97 = .ok (.iload_n 2, 1) := by decide +kernel
theorem dX3_put_98 : decode cX3_put 98 = .ok (.putfield 188, 3) := by decide +kernel
theorem dX3_put_101 : decode cX3_put 101 = .ok (.iconst 0, 1) := by decide +kernel
theorem dX3_put_102 : decode cX3_put 102 = .ok (.ireturn, 1) := by decide +kernel
theorem dX3_first_0 : decode cX3_first 0 = .ok (.iconst 0, 1) := by decide +kernel
theorem dX3_first_1 : decode cX3_first 1 = .ok (.istore_n 2, 1) := by decide +kernel
theorem dX3_first_2 : decode cX3_first 2 = .ok (.iload_n 2, 1) := by decide +kernel
theorem dX3_first_3 : decode cX3_first 3 = .ok (.aload_n 0, 1) := by decide +kernel
theorem dX3_first_4 : decode cX3_first 4 = .ok (.getfield 74, 3) := by decide +kernel
theorem dX3_first_7 : decode cX3_first 7 = .ok (.if_icmp .ge 42, 3) := by decide +kernel
theorem dX3_first_10 : decode cX3_first 10 = .ok (.aload_n 0, 1) := by decide +kernel
theorem dX3_first_11 : decode cX3_first 11 = .ok (.iload_n 2, 1) := by decide +kernel
theorem dX3_first_12 : decode cX3_first 12 = .ok (.invokevirtual 86, 3) := by decide +kernel
theorem dX3_first_15 : decode cX3_first 15 = .ok (.astore_n 3, 1) := by decide +kernel
theorem dX3_first_16 : decode cX3_first 16 = .ok (.aload_n 3, 1) := by decide +kernel
theorem dX3_first_17 : decode cX3_first 17 = .ok (.ifnull 26, 3) := by decide +kernel
theorem dX3_first_20 : decode cX3_first 20 = .ok (.aload_n 3, 1) := by decide +kernel
theorem dX3_first_21 : decode cX3_first 21 = .ok (.getfield 164, 3) := by decide +kernel
theorem dX3_first_24 : decode cX3_first 24 = .ok (.iconst 1, 1) := by decide +kernel
theorem dX3_first_25 : decode cX3_first 25 = .ok (.if_icmp .ne 18, 3) := by decide +kernel
theorem dX3_first_28 : decode cX3_first 28 = .ok (.aload_n 3, 1) := by decide +kernel
theorem dX3_first_29 : decode cX3_first 29 = .ok (.invokevirtual 177, 3) := by decide +kernel
theorem dX3_first_32 : decode cX3_first 32 = .ok (.iload_n 1, 1) := by decide +kernel
theorem dX3_first_33 : decode cX3_first 33 = .ok (.if_icmp .ne 10, 3) := by decide +kernel
theorem dX3_first_36 : decode cX3_first 36 = .ok (.aload_n 3, 1) := by decide +kernel
theorem dX3_first_37 : decode cX3_first 37 = .ok (.iconst 2, 1) := by decide +kernel
theorem dX3_first_38 : decode cX3_first 38 = .ok (.putfield 164, 3) := by decide +kernel
theorem dX3_first_41 : decode cX3_first 41 = .ok (.iload_n 2, 1) := by decide +kernel
theorem dX3_first_42 : decode cX3_first 42 = .ok (.ireturn, 1) := by decide +kernel
theorem dX3_first_43 : decode cX3_first 43 = .ok (.iinc 2 1, 3) := by decide +kernel
theorem dX3_first_46 : decode cX3_first 46 = .ok (.goto (-44), 3) := by decide +kernel
theorem dX3_first_49 : decode cX3_first 49 = .ok (.iconst (-1), 1) := by decide +kernel
theorem dX3_first_50 : decode cX3_first 50 = .ok (.ireturn, 1) := by decide +kernel
theorem dX3_lorry_0 : decode cX3_lorry 0 = .ok (.aload_n 0, 1) := by decide +kernel
theorem dX3_lorry_1 : decode cX3_lorry 1 = .ok (.getfield 191, 3) := by decide +kernel
theorem dX3_lorry_4 : decode cX3_lorry 4 = .ok (.iconst 3, 1) := by decide +kernel
theorem dX3_lorry_5 : decode cX3_lorry 5 = .ok (.if_icmp .lt 5, 3) := by decide +kernel
theorem dX3_lorry_8 : decode cX3_lorry 8 = .ok (.iconst (-1), 1) := by decide +kernel
theorem dX3_lorry_9 : decode cX3_lorry 9 = .ok (.ireturn, 1) := by decide +kernel
theorem dX3_lorry_10 : decode cX3_lorry 10 = .ok (.lload_n 1, 1) := by decide +kernel
theorem dX3_lorry_11 : decode cX3_lorry 11 = .ok (.lconst 0, 1) := by decide +kernel
theorem dX3_lorry_12 : decode cX3_lorry 12 = .ok (.ldc2_w 194, 3) := by decide +kernel
theorem dX3_lorry_15 : decode cX3_lorry 15 = .ok (.invokestatic 65, 3) := by decide +kernel
theorem dX3_lorry_18 : decode cX3_lorry 18 = .ok (.ifCond .eq 14, 3) := by decide +kernel
theorem dX3_lorry_21 : decode cX3_lorry 21 = .ok (.lload_n 3, 1) := by decide +kernel
theorem dX3_lorry_22 : decode cX3_lorry 22 = .ok (.lconst 0, 1) := by decide +kernel
theorem dX3_lorry_23 : decode cX3_lorry 23 = .ok (.ldc2_w 194, 3) := by decide +kernel
theorem dX3_lorry_26 : decode cX3_lorry 26 = .ok (.invokestatic 65, 3) := by decide +kernel
theorem dX3_lorry_29 : decode cX3_lorry 29 = .ok (.ifCond .ne 5, 3) := by decide +kernel
theorem dX3_lorry_32 : decode cX3_lorry 32 = .ok (.iconst (-1), 1) := by decide +kernel
theorem dX3_lorry_33 : decode cX3_lorry 33 = .ok (.ireturn, 1) := by decide +kernel
theorem dX3_lorry_34 : decode cX3_lorry 34 = .ok (.aload_n 0, 1) := by decide +kernel
theorem dX3_lorry_35 : decode cX3_lorry 35 = .ok (.getfield 41, 3) := by decide +kernel
theorem dX3_lorry_38 : decode cX3_lorry 38 = .ok (.aload_n 0, 1) := by decide +kernel
theorem dX3_lorry_39 : decode cX3_lorry 39 = .ok (.getfield 191, 3) := by decide +kernel
theorem dX3_lorry_42 : decode cX3_lorry 42 = .ok (.new 39, 3) := by decide +kernel
theorem dX3_lorry_45 : decode cX3_lorry 45 = .ok (.dup, 1) := by decide +kernel
theorem dX3_lorry_46 : decode cX3_lorry 46 = .ok (.lload_n 1, 1) := by decide +kernel
theorem dX3_lorry_47 : decode cX3_lorry 47 = .ok (.lload_n 3, 1) := by decide +kernel
theorem dX3_lorry_48 : decode cX3_lorry 48 = .ok (.invokespecial 196, 3) := by decide +kernel
theorem dX3_lorry_51 : decode cX3_lorry 51 = .ok (.aastore, 1) := by decide +kernel
theorem dX3_lorry_52 : decode cX3_lorry 52 = .ok (.aload_n 0, 1) := by decide +kernel
theorem dX3_lorry_53 : decode cX3_lorry 53 = .ok (.dup, 1) := by decide +kernel
theorem dX3_lorry_54 : decode cX3_lorry 54 = .ok (.getfield 191, 3) := by decide +kernel
theorem dX3_lorry_57 : decode cX3_lorry 57 = .ok (.iconst 1, 1) := by decide +kernel
theorem dX3_lorry_58 : decode cX3_lorry 58 = .ok (.iadd, 1) := by decide +kernel
theorem dX3_lorry_59 : decode cX3_lorry 59 = .ok (.putfield 191, 3) := by decide +kernel
theorem dX3_lorry_62 : decode cX3_lorry 62 = .ok (.aload_n 0, 1) := by decide +kernel
theorem dX3_lorry_63 : decode cX3_lorry 63 = .ok (.getfield 191, 3) := by decide +kernel
theorem dX3_lorry_66 : decode cX3_lorry 66 = .ok (.iconst 1, 1) := by decide +kernel
theorem dX3_lorry_67 : decode cX3_lorry 67 = .ok (.isub, 1) := by decide +kernel
theorem dX3_lorry_68 : decode cX3_lorry 68 = .ok (.ireturn, 1) := by decide +kernel
theorem dX3_load_0 : decode cX3_load 0 = .ok (.aload_n 0, 1) := by decide +kernel
theorem dX3_load_1 : decode cX3_load 1 = .ok (.iload_n 1, 1) := by decide +kernel
theorem dX3_load_2 : decode cX3_load 2 = .ok (.invokevirtual 199, 3) := by decide +kernel
theorem dX3_load_5 : decode cX3_load 5 = .ok (.astore_n 3, 1) := by decide +kernel
theorem dX3_load_6 : decode cX3_load 6 = .ok (.aload_n 0, 1) := by decide +kernel
theorem dX3_load_7 : decode cX3_load 7 = .ok (.iload_n 2, 1) := by decide +kernel
theorem dX3_load_8 : decode cX3_load 8 = .ok (.invokevirtual 86, 3) := by decide +kernel
theorem dX3_load_11 : decode cX3_load 11 = .ok (.astore 4, 2) := by decide +kernel
theorem dX3_load_13 : decode cX3_load 13 = .ok (.aload_n 3, 1) := by decide +kernel
theorem dX3_load_14 : decode cX3_load 14 = .ok (.ifnull 8, 3) := by decide +kernel
theorem dX3_load_17 : decode cX3_load 17 = .ok (.aload 4, 2) := by decide +kernel
theorem dX3_load_19 : decode cX3_load 19 = .ok (.ifnonnull 5, 3) := by decide +kernel
theorem dX3_load_22 : decode cX3_load 22 = .ok (.iconst (-1), 1) := by decide +kernel
theorem dX3_load_23 : decode cX3_load 23 = .ok (.ireturn, 1) := by decide +kernel
theorem dX3_load_24 : decode cX3_load 24 = .ok (.aload 4, 2) := by decide +kernel
theorem dX3_load_26 : decode cX3_load 26 = .ok (.getfield 164, 3) := by decide +kernel
theorem dX3_load_29 : decode cX3_load 29 = .ok (.iconst 2, 1) := by decide +kernel
theorem dX3_load_30 : decode cX3_load 30 = .ok (.if_icmp .ne 23, 3) := by decide +kernel
theorem dX3_load_33 : decode cX3_load 33 = .ok (.aload 4, 2) := by decide +kernel
theorem dX3_load_35 : decode cX3_load 35 = .ok (.getfield 203, 3) := by decide +kernel
theorem dX3_load_38 : decode cX3_load 38 = .ok (.ifCond .ne 15, 3) := by decide +kernel
theorem dX3_load_41 : decode cX3_load 41 = .ok (.aload_n 3, 1) := by decide +kernel
theorem dX3_load_42 : decode cX3_load 42 = .ok (.aload 4, 2) := by decide +kernel
theorem dX3_load_44 : decode cX3_load 44 = .ok (.invokevirtual 96, 3) := by decide +kernel
theorem dX3_load_47 : decode cX3_load 47 = .ok (.invokevirtual 207, 3) := by decide +kernel
theorem dX3_load_50 : decode cX3_load 50 = .ok (.ifCond .ne 5, 3) := by decide +kernel
theorem dX3_load_53 : decode cX3_load 53 = .ok (.iconst (-1), 1) := by decide +kernel
theorem dX3_load_54 : decode cX3_load 54 = .ok (.ireturn, 1) := by decide +kernel
theorem dX3_load_55 : decode cX3_load 55 = .ok (.aload 4, 2) := by decide +kernel
theorem dX3_load_57 : decode cX3_load 57 = .ok (.iconst 1, 1) := by decide +kernel
theorem dX3_load_58 : decode cX3_load 58 = .ok (.putfield 203, 3) := by decide +kernel
theorem dX3_load_61 : decode cX3_load 61 = .ok (.aload_n 3, 1) := by decide +kernel
theorem dX3_load_62 : decode cX3_load 62 = .ok (.aload 4, 2) := by decide +kernel
theorem dX3_load_64 : decode cX3_load 64 = .ok (.invokevirtual 96, 3) := by decide +kernel
theorem dX3_load_67 : decode cX3_load 67 = .ok (.invokevirtual 211, 3) := by decide +kernel
theorem dX3_load_70 : decode cX3_load 70 = .ok (.ireturn, 1) := by decide +kernel
theorem dX3_moment_0 : decode cX3_moment 0 = .ok (.aload_n 0, 1) := by decide +kernel
theorem dX3_moment_1 : decode cX3_moment 1 = .ok (.iload_n 1, 1) := by decide +kernel
theorem dX3_moment_2 : decode cX3_moment 2 = .ok (.invokevirtual 199, 3) := by decide +kernel
theorem dX3_moment_5 : decode cX3_moment 5 = .ok (.astore_n 3, 1) := by decide +kernel
theorem dX3_moment_6 : decode cX3_moment 6 = .ok (.aload_n 3, 1) := by decide +kernel
theorem dX3_moment_7 : decode cX3_moment 7 = .ok (.ifnull 13, 3) := by decide +kernel
theorem dX3_moment_10 : decode cX3_moment 10 = .ok (.iload_n 2, 1) := by decide +kernel
theorem dX3_moment_11 : decode cX3_moment 11 = .ok (.i2l, 1) := by decide +kernel
theorem dX3_moment_12 : decode cX3_moment 12 = .ok (.lconst 0, 1) := by decide +kernel
theorem dX3_moment_13 : decode cX3_moment 13 = .ok (.lconst 1, 1) := by decide +kernel
theorem dX3_moment_14 : decode cX3_moment 14 = .ok (.invokestatic 65, 3) := by decide +kernel
theorem dX3_moment_17 : decode cX3_moment 17 = .ok (.ifCond .ne 7, 3) := by decide +kernel
theorem dX3_moment_20 : decode cX3_moment 20 = .ok (.ldc2_w 90, 3) := by decide +kernel
theorem dX3_moment_23 : decode cX3_moment 23 = .ok (.lreturn, 1) := by decide +kernel
theorem dX3_moment_24 : decode cX3_moment 24 = .ok (.iload_n 2, 1) := by decide +kernel
theorem dX3_moment_25 : decode cX3_moment 25 = .ok (.ifCond .ne 10, 3) := by decide +kernel
theorem dX3_moment_28 : decode cX3_moment 28 = .ok (.aload_n 3, 1) := by decide +kernel
theorem dX3_moment_29 : decode cX3_moment 29 = .ok (.getfield 215, 3) := by decide +kernel
theorem dX3_moment_32 : decode cX3_moment 32 = .ok (.goto 7, 3) := by decide +kernel
theorem dX3_moment_35 : decode cX3_moment 35 = .ok (.aload_n 3, 1) := by decide +kernel
theorem dX3_moment_36 : decode cX3_moment 36 = .ok (.getfield 219, 3) := by decide +kernel
theorem dX3_moment_39 : decode cX3_moment 39 = .ok (.lreturn, 1) := by decide +kernel
theorem dX3_rebale_0 : decode cX3_rebale 0 = .ok (.aload_n 0, 1) := by decide +kernel
theorem dX3_rebale_1 : decode cX3_rebale 1 = .ok (.iload_n 1, 1) := by decide +kernel
theorem dX3_rebale_2 : decode cX3_rebale 2 = .ok (.invokevirtual 86, 3) := by decide +kernel
theorem dX3_rebale_5 : decode cX3_rebale 5 = .ok (.astore_n 3, 1) := by decide +kernel
theorem dX3_rebale_6 : decode cX3_rebale 6 = .ok (.aload_n 0, 1) := by decide +kernel
theorem dX3_rebale_7 : decode cX3_rebale 7 = .ok (.iload_n 2, 1) := by decide +kernel
theorem dX3_rebale_8 : decode cX3_rebale 8 = .ok (.invokevirtual 86, 3) := by decide +kernel
theorem dX3_rebale_11 : decode cX3_rebale 11 = .ok (.astore 4, 2) := by decide +kernel
theorem dX3_rebale_13 : decode cX3_rebale 13 = .ok (.aload_n 3, 1) := by decide +kernel
theorem dX3_rebale_14 : decode cX3_rebale 14 = .ok (.ifnull 22, 3) := by decide +kernel
theorem dX3_rebale_17 : decode cX3_rebale 17 = .ok (.aload 4, 2) := by decide +kernel
theorem dX3_rebale_19 : decode cX3_rebale 19 = .ok (.ifnull 17, 3) := by decide +kernel
theorem dX3_rebale_22 : decode cX3_rebale 22 = .ok (.iload_n 1, 1) := by decide +kernel
theorem dX3_rebale_23 : decode cX3_rebale 23 = .ok (.iload_n 2, 1) := by decide +kernel
theorem dX3_rebale_24 : decode cX3_rebale 24 = .ok (.if_icmp .eq 12, 3) := by decide +kernel
theorem dX3_rebale_27 : decode cX3_rebale 27 = .ok (.aload_n 0, 1) := by decide +kernel
theorem dX3_rebale_28 : decode cX3_rebale 28 = .ok (.getfield 74, 3) := by decide +kernel
theorem dX3_rebale_31 : decode cX3_rebale 31 = .ok (.bipush 12, 2) := by decide +kernel
theorem dX3_rebale_33 : decode cX3_rebale 33 = .ok (.if_icmp .lt 5, 3) := by decide +kernel
theorem dX3_rebale_36 : decode cX3_rebale 36 = .ok (.iconst (-1), 1) := by decide +kernel
theorem dX3_rebale_37 : decode cX3_rebale 37 = .ok (.ireturn, 1) := by decide +kernel
theorem dX3_rebale_38 : decode cX3_rebale 38 = .ok (.aload_n 3, 1) := by decide +kernel
theorem dX3_rebale_39 : decode cX3_rebale 39 = .ok (.getfield 164, 3) := by decide +kernel
theorem dX3_rebale_42 : decode cX3_rebale 42 = .ok (.ifCond .ne 11, 3) := by decide +kernel
theorem dX3_rebale_45 : decode cX3_rebale 45 = .ok (.aload 4, 2) := by decide +kernel
theorem dX3_rebale_47 : decode cX3_rebale 47 = .ok (.getfield 164, 3) := by decide +kernel
theorem dX3_rebale_50 : decode cX3_rebale 50 = .ok (.ifCond .eq 5, 3) := by decide +kernel
theorem dX3_rebale_53 : decode cX3_rebale 53 = .ok (.iconst (-1), 1) := by decide +kernel
theorem dX3_rebale_54 : decode cX3_rebale 54 = .ok (.ireturn, 1) := by decide +kernel
theorem dX3_rebale_55 : decode cX3_rebale 55 = .ok (.new 20, 3) := by decide +kernel
theorem dX3_rebale_58 : decode cX3_rebale 58 = .ok (.dup, 1) := by decide +kernel
theorem dX3_rebale_59 : decode cX3_rebale 59 = .ok (.invokespecial 77, 3) := by decide +kernel
theorem dX3_rebale_62 : decode cX3_rebale 62 = .ok (.astore 5, 2) := by decide +kernel
theorem dX3_rebale_64 : decode cX3_rebale 64 = .ok (.aload 5, 2) := by decide +kernel
theorem dX3_rebale_66 : decode cX3_rebale 66 = .ok (.aload_n 3, 1) := by decide +kernel
theorem dX3_rebale_67 : decode cX3_rebale 67 = .ok (.aload 4, 2) := by decide +kernel
theorem dX3_rebale_69 : decode cX3_rebale 69 = .ok (.invokevirtual 222, 3) := by decide +kernel
theorem dX3_rebale_72 : decode cX3_rebale 72 = .ok (.aload_n 3, 1) := by decide +kernel
theorem dX3_rebale_73 : decode cX3_rebale 73 = .ok (.iconst 3, 1) := by decide +kernel
theorem dX3_rebale_74 : decode cX3_rebale 74 = .ok (.putfield 164, 3) := by decide +kernel
theorem dX3_rebale_77 : decode cX3_rebale 77 = .ok (.aload 4, 2) := by decide +kernel
theorem dX3_rebale_79 : decode cX3_rebale 79 = .ok (.iconst 3, 1) := by decide +kernel
theorem dX3_rebale_80 : decode cX3_rebale 80 = .ok (.putfield 164, 3) := by decide +kernel
theorem dX3_rebale_83 : decode cX3_rebale 83 = .ok (.aload_n 0, 1) := by decide +kernel
theorem dX3_rebale_84 : decode cX3_rebale 84 = .ok (.aload 5, 2) := by decide +kernel
theorem dX3_rebale_86 : decode cX3_rebale 86 = .ok (.invokevirtual 82, 3) := by decide +kernel
theorem dX3_rebale_89 : decode cX3_rebale 89 = .ok (.ireturn, 1) := by decide +kernel
theorem dX3_brought_0 : decode cX3_brought 0 = .ok (.aload_n 0, 1) := by decide +kernel
theorem dX3_brought_1 : decode cX3_brought 1 = .ok (.iload_n 1, 1) := by decide +kernel
theorem dX3_brought_2 : decode cX3_brought 2 = .ok (.invokevirtual 86, 3) := by decide +kernel
theorem dX3_brought_5 : decode cX3_brought 5 = .ok (.astore 4, 2) := by decide +kernel
theorem dX3_brought_7 : decode cX3_brought 7 = .ok (.aload 4, 2) := by decide +kernel
theorem dX3_brought_9 : decode cX3_brought 9 = .ok (.ifnull 20, 3) := by decide +kernel
theorem dX3_brought_12 : decode cX3_brought 12 = .ok (.iload_n 2, 1) := by decide +kernel
theorem dX3_brought_13 : decode cX3_brought 13 = .ok (.invokestatic 59, 3) := by decide +kernel
theorem dX3_brought_16 : decode cX3_brought 16 = .ok (.ifCond .eq 13, 3) := by decide +kernel

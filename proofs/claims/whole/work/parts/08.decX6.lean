theorem dX6_init_0 : decode cX6_init 0 = .ok (.aload_n 0, 1) := by decide +kernel
theorem dX6_init_1 : decode cX6_init 1 = .ok (.invokespecial 1, 3) := by decide +kernel
theorem dX6_init_4 : decode cX6_init 4 = .ok (.aload_n 0, 1) := by decide +kernel
theorem dX6_init_5 : decode cX6_init 5 = .ok (.bipush 120, 2) := by decide +kernel
theorem dX6_init_7 : decode cX6_init 7 = .ok (.newarray .int, 2) := by decide +kernel
theorem dX6_init_9 : decode cX6_init 9 = .ok (.putfield 7, 3) := by decide +kernel
theorem dX6_init_12 : decode cX6_init 12 = .ok (.aload_n 0, 1) := by decide +kernel
theorem dX6_init_13 : decode cX6_init 13 = .ok (.sipush 258, 3) := by decide +kernel
theorem dX6_init_16 : decode cX6_init 16 = .ok (.newarray .int, 2) := by decide +kernel
theorem dX6_init_18 : decode cX6_init 18 = .ok (.putfield 13, 3) := by decide +kernel
theorem dX6_init_21 : decode cX6_init 21 = .ok (.aload_n 0, 1) := by decide +kernel
theorem dX6_init_22 : decode cX6_init 22 = .ok (.sipush 258, 3) := by decide +kernel
theorem dX6_init_25 : decode cX6_init 25 = .ok (.newarray .int, 2) := by decide +kernel
theorem dX6_init_27 : decode cX6_init 27 = .ok (.putfield 16, 3) := by decide +kernel
theorem dX6_init_30 : decode cX6_init 30 = .ok (.aload_n 0, 1) := by decide +kernel
theorem dX6_init_31 : decode cX6_init 31 = .ok (.sipush 3612, 3) := by decide +kernel
theorem dX6_init_34 : decode cX6_init 34 = .ok (.newarray .int, 2) := by decide +kernel
theorem dX6_init_36 : decode cX6_init 36 = .ok (.putfield 19, 3) := by decide +kernel
theorem dX6_init_39 : decode cX6_init 39 = .ok (.aload_n 0, 1) := by decide +kernel
theorem dX6_init_40 : decode cX6_init 40 = .ok (.sipush 516, 3) := by decide +kernel
theorem dX6_init_43 : decode cX6_init 43 = .ok (.newarray .int, 2) := by decide +kernel
theorem dX6_init_45 : decode cX6_init 45 = .ok (.putfield 22, 3) := by decide +kernel
theorem dX6_init_48 : decode cX6_init 48 = .ok (.aload_n 0, 1) := by decide +kernel
theorem dX6_init_49 : decode cX6_init 49 = .ok (.iconst 2, 1) := by decide +kernel
theorem dX6_init_50 : decode cX6_init 50 = .ok (.newarray .boolean, 2) := by decide +kernel
theorem dX6_init_52 : decode cX6_init 52 = .ok (.putfield 25, 3) := by decide +kernel
theorem dX6_init_55 : decode cX6_init 55 = .ok (.aload_n 0, 1) := by decide +kernel
theorem dX6_init_56 : decode cX6_init 56 = .ok (.getfield 13, 3) := by decide +kernel
theorem dX6_init_59 : decode cX6_init 59 = .ok (.invokestatic 29, 3) := by decide +kernel
theorem dX6_init_62 : decode cX6_init 62 = .ok (.return_, 1) := by decide +kernel
theorem dX6_thrown_0 : decode cX6_thrown 0 = .ok (.aload_n 0, 1) := by decide +kernel
theorem dX6_thrown_1 : decode cX6_thrown 1 = .ok (.getfield 33, 3) := by decide +kernel
theorem dX6_thrown_4 : decode cX6_thrown 4 = .ok (.ireturn, 1) := by decide +kernel
theorem dX6_refused_0 : decode cX6_refused 0 = .ok (.aload_n 0, 1) := by decide +kernel
theorem dX6_refused_1 : decode cX6_refused 1 = .ok (.iload_n 1, 1) := by decide +kernel
theorem dX6_refused_2 : decode cX6_refused 2 = .ok (.putfield 33, 3) := by decide +kernel
theorem dX6_refused_5 : decode cX6_refused 5 = .ok (.iload_n 1, 1) := by decide +kernel
theorem dX6_refused_6 : decode cX6_refused 6 = .ok (.ifCond .le 7, 3) := by decide +kernel
theorem dX6_refused_9 : decode cX6_refused 9 = .ok (.iconst 1, 1) := by decide +kernel
theorem dX6_refused_10 : decode cX6_refused 10 = .ok (.goto 4, 3) := by decide +kernel
theorem dX6_refused_13 : decode cX6_refused 13 = .ok (.iconst 0, 1) := by decide +kernel
theorem dX6_refused_14 : decode cX6_refused 14 = .ok (.ireturn, 1) := by decide +kernel
theorem dX6_in_0 : decode cX6_in 0 = .ok (.lload_n 0, 1) := by decide +kernel
theorem dX6_in_1 : decode cX6_in 1 = .ok (.lload_n 2, 1) := by decide +kernel
theorem dX6_in_2 : decode cX6_in 2 = .ok (.lcmp, 1) := by decide +kernel
theorem dX6_in_3 : decode cX6_in 3 = .ok (.ifCond .lt 14, 3) := by decide +kernel
theorem dX6_in_6 : decode cX6_in 6 = .ok (.lload_n 0, 1) := by decide +kernel
theorem dX6_in_7 : decode cX6_in 7 = .ok (.lload 4, 2) := by decide +kernel
theorem dX6_in_9 : decode cX6_in 9 = .ok (.lcmp, 1) := by decide +kernel
theorem dX6_in_10 : decode cX6_in 10 = .ok (.ifCond .gt 7, 3) := by decide +kernel
theorem dX6_in_13 : decode cX6_in 13 = .ok (.iconst 1, 1) := by decide +kernel
theorem dX6_in_14 : decode cX6_in 14 = .ok (.goto 4, 3) := by decide +kernel
theorem dX6_in_17 : decode cX6_in 17 = .ok (.iconst 0, 1) := by decide +kernel
theorem dX6_in_18 : decode cX6_in 18 = .ok (.ireturn, 1) := by decide +kernel
theorem dX6_copyState_0 : decode cX6_copyState 0 = .ok (.iconst 0, 1) := by decide +kernel
theorem dX6_copyState_1 : decode cX6_copyState 1 = .ok (.istore 4, 2) := by decide +kernel
theorem dX6_copyState_3 : decode cX6_copyState 3 = .ok (.iload 4, 2) := by decide +kernel
theorem dX6_copyState_5 : decode cX6_copyState 5 = .ok (.sipush 258, 3) := by decide +kernel
theorem dX6_copyState_8 : decode cX6_copyState 8 = .ok (.if_icmp .ge 21, 3) := by decide +kernel
theorem dX6_copyState_11 : decode cX6_copyState 11 = .ok (.aload_n 2, 1) := by decide +kernel
theorem dX6_copyState_12 : decode cX6_copyState 12 = .ok (.iload_n 3, 1) := by decide +kernel
theorem dX6_copyState_13 : decode cX6_copyState 13 = .ok (.iload 4, 2) := by decide +kernel
theorem dX6_copyState_15 : decode cX6_copyState 15 = .ok (.iadd, 1) := by decide +kernel
theorem dX6_copyState_16 : decode cX6_copyState 16 = .ok (.aload_n 0, 1) := by decide +kernel
theorem dX6_copyState_17 : decode cX6_copyState 17 = .ok (.iload_n 1, 1) := by decide +kernel
theorem dX6_copyState_18 : decode cX6_copyState 18 = .ok (.iload 4, 2) := by decide +kernel
theorem dX6_copyState_20 : decode cX6_copyState 20 = .ok (.iadd, 1) := by decide +kernel
theorem dX6_copyState_21 : decode cX6_copyState 21 = .ok (.iaload, 1) := by decide +kernel
theorem dX6_copyState_22 : decode cX6_copyState 22 = .ok (.iastore, 1) := by decide +kernel
theorem dX6_copyState_23 : decode cX6_copyState 23 = .ok (.iinc 4 1, 3) := by decide +kernel
theorem dX6_copyState_26 : decode cX6_copyState 26 = .ok (.goto (-23), 3) := by decide +kernel
theorem dX6_copyState_29 : decode cX6_copyState 29 = .ok (.return_, 1) := by decide +kernel
theorem dX6_clear_0 : decode cX6_clear 0 = .ok (.iconst 0, 1) := by decide +kernel
theorem dX6_clear_1 : decode cX6_clear 1 = .ok (.istore_n 1, 1) := by decide +kernel
theorem dX6_clear_2 : decode cX6_clear 2 = .ok (.iload_n 1, 1) := by decide +kernel
theorem dX6_clear_3 : decode cX6_clear 3 = .ok (.sipush 258, 3) := by decide +kernel
theorem dX6_clear_6 : decode cX6_clear 6 = .ok (.if_icmp .ge 13, 3) := by decide +kernel
theorem dX6_clear_9 : decode cX6_clear 9 = .ok (.aload_n 0, 1) := by decide +kernel
theorem dX6_clear_10 : decode cX6_clear 10 = .ok (.iload_n 1, 1) := by decide +kernel
theorem dX6_clear_11 : decode cX6_clear 11 = .ok (.iconst 0, 1) := by decide +kernel
theorem dX6_clear_12 : decode cX6_clear 12 = .ok (.iastore, 1) := by decide +kernel
theorem dX6_clear_13 : decode cX6_clear 13 = .ok (.iinc 1 1, 3) := by decide +kernel
theorem dX6_clear_16 : decode cX6_clear 16 = .ok (.goto (-14), 3) := by decide +kernel
theorem dX6_clear_19 : decode cX6_clear 19 = .ok (.aload_n 0, 1) := by decide +kernel
theorem dX6_clear_20 : decode cX6_clear 20 = .ok (.bipush 11, 2) := by decide +kernel
theorem dX6_clear_22 : decode cX6_clear 22 = .ok (.bipush 30, 2) := by decide +kernel
theorem dX6_clear_24 : decode cX6_clear 24 = .ok (.iastore, 1) := by decide +kernel
theorem dX6_clear_25 : decode cX6_clear 25 = .ok (.aload_n 0, 1) := by decide +kernel
theorem dX6_clear_26 : decode cX6_clear 26 = .ok (.bipush 12, 2) := by decide +kernel
theorem dX6_clear_28 : decode cX6_clear 28 = .ok (.iconst 1, 1) := by decide +kernel
theorem dX6_clear_29 : decode cX6_clear 29 = .ok (.iastore, 1) := by decide +kernel
theorem dX6_clear_30 : decode cX6_clear 30 = .ok (.aload_n 0, 1) := by decide +kernel
theorem dX6_clear_31 : decode cX6_clear 31 = .ok (.bipush 13, 2) := by decide +kernel
theorem dX6_clear_33 : decode cX6_clear 33 = .ok (.iconst 2, 1) := by decide +kernel
theorem dX6_clear_34 : decode cX6_clear 34 = .ok (.iastore, 1) := by decide +kernel
theorem dX6_clear_35 : decode cX6_clear 35 = .ok (.aload_n 0, 1) := by decide +kernel
theorem dX6_clear_36 : decode cX6_clear 36 = .ok (.bipush 14, 2) := by decide +kernel
theorem dX6_clear_38 : decode cX6_clear 38 = .ok (.bipush 10, 2) := by decide +kernel
theorem dX6_clear_40 : decode cX6_clear 40 = .ok (.iastore, 1) := by decide +kernel
theorem dX6_clear_41 : decode cX6_clear 41 = .ok (.aload_n 0, 1) := by decide +kernel
theorem dX6_clear_42 : decode cX6_clear 42 = .ok (.bipush 15, 2) := by decide +kernel
theorem dX6_clear_44 : decode cX6_clear 44 = .ok (.iconst 3, 1) := by decide +kernel
theorem dX6_clear_45 : decode cX6_clear 45 = .ok (.iastore, 1) := by decide +kernel
theorem dX6_clear_46 : decode cX6_clear 46 = .ok (.iconst 0, 1) := by decide +kernel
theorem dX6_clear_47 : decode cX6_clear 47 = .ok (.istore_n 1, 1) := by decide +kernel
theorem dX6_clear_48 : decode cX6_clear 48 = .ok (.iload_n 1, 1) := by decide +kernel
theorem dX6_clear_49 : decode cX6_clear 49 = .ok (.iconst 4, 1) := by decide +kernel
theorem dX6_clear_50 : decode cX6_clear 50 = .ok (.if_icmp .ge 16, 3) := by decide +kernel
theorem dX6_clear_53 : decode cX6_clear 53 = .ok (.aload_n 0, 1) := by decide +kernel
theorem dX6_clear_54 : decode cX6_clear 54 = .ok (.bipush 16, 2) := by decide +kernel
theorem dX6_clear_56 : decode cX6_clear 56 = .ok (.iload_n 1, 1) := by decide +kernel
theorem dX6_clear_57 : decode cX6_clear 57 = .ok (.iadd, 1) := by decide +kernel
theorem dX6_clear_58 : decode cX6_clear 58 = .ok (.iload_n 1, 1) := by decide +kernel
theorem dX6_clear_59 : decode cX6_clear 59 = .ok (.iastore, 1) := by decide +kernel
theorem dX6_clear_60 : decode cX6_clear 60 = .ok (.iinc 1 1, 3) := by decide +kernel
theorem dX6_clear_63 : decode cX6_clear 63 = .ok (.goto (-15), 3) := by decide +kernel
theorem dX6_clear_66 : decode cX6_clear 66 = .ok (.return_, 1) := by decide +kernel
theorem dX6_of_0 : decode cX6_of 0 = .ok (.aload_n 0, 1) := by decide +kernel
theorem dX6_of_1 : decode cX6_of 1 = .ok (.bipush 48, 2) := by decide +kernel
theorem dX6_of_3 : decode cX6_of 3 = .ok (.bipush 21, 2) := by decide +kernel
theorem dX6_of_5 : decode cX6_of 5 = .ok (.iload_n 1, 1) := by decide +kernel
theorem dX6_of_6 : decode cX6_of 6 = .ok (.imul, 1) := by decide +kernel
theorem dX6_of_7 : decode cX6_of 7 = .ok (.iadd, 1) := by decide +kernel
theorem dX6_of_8 : decode cX6_of 8 = .ok (.iload_n 2, 1) := by decide +kernel
theorem dX6_of_9 : decode cX6_of 9 = .ok (.iadd, 1) := by decide +kernel
theorem dX6_of_10 : decode cX6_of 10 = .ok (.iaload, 1) := by decide +kernel
theorem dX6_of_11 : decode cX6_of 11 = .ok (.ireturn, 1) := by decide +kernel
theorem dX6_add_0 : decode cX6_add 0 = .ok (.aload_n 0, 1) := by decide +kernel
theorem dX6_add_1 : decode cX6_add 1 = .ok (.bipush 48, 2) := by decide +kernel
theorem dX6_add_3 : decode cX6_add 3 = .ok (.bipush 21, 2) := by decide +kernel
theorem dX6_add_5 : decode cX6_add 5 = .ok (.iload_n 1, 1) := by decide +kernel
theorem dX6_add_6 : decode cX6_add 6 = .ok (.imul, 1) := by decide +kernel
theorem dX6_add_7 : decode cX6_add 7 = .ok (.iadd, 1) := by decide +kernel
theorem dX6_add_8 : decode cX6_add 8 = .ok (.iload_n 2, 1) := by decide +kernel
theorem dX6_add_9 : decode cX6_add 9 = .ok (.iadd, 1) := by decide +kernel
theorem dX6_add_10 : decode cX6_add 10 = .ok (.dup2, 1) := by decide +kernel
theorem dX6_add_11 : decode cX6_add 11 = .ok (.iaload, 1) := by decide +kernel
theorem dX6_add_12 : decode cX6_add 12 = .ok (.iload_n 3, 1) := by decide +kernel
theorem dX6_add_13 : decode cX6_add 13 = .ok (.iadd, 1) := by decide +kernel
theorem dX6_add_14 : decode cX6_add 14 = .ok (.iastore, 1) := by decide +kernel
theorem dX6_add_15 : decode cX6_add 15 = .ok (.return_, 1) := by decide +kernel
theorem dX6_isCustomer_0 : decode cX6_isCustomer 0 = .ok (.iload_n 1, 1) := by decide +kernel
theorem dX6_isCustomer_1 : decode cX6_isCustomer 1 = .ok (.i2l, 1) := by decide +kernel
theorem dX6_isCustomer_2 : decode cX6_isCustomer 2 = .ok (.lconst 0, 1) := by decide +kernel
theorem dX6_isCustomer_3 : decode cX6_isCustomer 3 = .ok (.aload_n 0, 1) := by decide +kernel
theorem dX6_isCustomer_4 : decode cX6_isCustomer 4 = .ok (.iconst 0, 1) := by decide +kernel
theorem dX6_isCustomer_5 : decode cX6_isCustomer 5 = .ok (.iaload, 1) := by decide +kernel
theorem dX6_isCustomer_6 : decode cX6_isCustomer 6 = .ok (.iconst 1, 1) := by decide +kernel
theorem dX6_isCustomer_7 : decode cX6_isCustomer 7 = .ok (.isub, 1) := by decide +kernel
theorem dX6_isCustomer_8 : decode cX6_isCustomer 8 = .ok (.i2l, 1) := by decide +kernel
theorem dX6_isCustomer_9 : decode cX6_isCustomer 9 = .ok (.invokestatic 37, 3) := by decide +kernel
theorem dX6_isCustomer_12 : decode cX6_isCustomer 12 = .ok (.ireturn, 1) := by decide +kernel
theorem dX6_isStreet_0 : decode cX6_isStreet 0 = .ok (.iload_n 0, 1) := by decide +kernel
theorem dX6_isStreet_1 : decode cX6_isStreet 1 = .ok (.i2l, 1) := by decide +kernel
theorem dX6_isStreet_2 : decode cX6_isStreet 2 = .ok (.lconst 0, 1) := by decide +kernel
theorem dX6_isStreet_3 : decode cX6_isStreet 3 = .ok (.ldc2_w 41, 3) := by decide +kernel
theorem dX6_isStreet_6 : decode cX6_isStreet 6 = .ok (.invokestatic 37, 3) := by decide +kernel
theorem dX6_isStreet_9 : decode cX6_isStreet 9 = .ok (.ireturn, 1) := by decide +kernel
theorem dX6_isWeekday_0 : decode cX6_isWeekday 0 = .ok (.iload_n 0, 1) := by decide +kernel
theorem dX6_isWeekday_1 : decode cX6_isWeekday 1 = .ok (.i2l, 1) := by decide +kernel
theorem dX6_isWeekday_2 : decode cX6_isWeekday 2 = .ok (.lconst 0, 1) := by decide +kernel
theorem dX6_isWeekday_3 : decode cX6_isWeekday 3 = .ok (.ldc2_w 43, 3) := by decide +kernel
theorem dX6_isWeekday_6 : decode cX6_isWeekday 6 = .ok (.invokestatic 37, 3) := by decide +kernel
theorem dX6_isWeekday_9 : decode cX6_isWeekday 9 = .ok (.ireturn, 1) := by decide +kernel
theorem dX6_isSetting_0 : decode cX6_isSetting 0 = .ok (.iload_n 0, 1) := by decide +kernel
theorem dX6_isSetting_1 : decode cX6_isSetting 1 = .ok (.tableswitch 75 0 4 #[35, 45, 45, 55, 65], 35) := by decide +kernel
theorem dX6_isSetting_36 : decode cX6_isSetting 36 = .ok (.iload_n 1, 1) := by decide +kernel
theorem dX6_isSetting_37 : decode cX6_isSetting 37 = .ok (.i2l, 1) := by decide +kernel
theorem dX6_isSetting_38 : decode cX6_isSetting 38 = .ok (.lconst 0, 1) := by decide +kernel
theorem dX6_isSetting_39 : decode cX6_isSetting 39 = .ok (.ldc2_w 45, 3) := by decide +kernel
theorem dX6_isSetting_42 : decode cX6_isSetting 42 = .ok (.invokestatic 37, 3) := by decide +kernel
theorem dX6_isSetting_45 : decode cX6_isSetting 45 = .ok (.ireturn, 1) := by decide +kernel
theorem dX6_isSetting_46 : decode cX6_isSetting 46 = .ok (.iload_n 1, 1) := by decide +kernel
theorem dX6_isSetting_47 : decode cX6_isSetting 47 = .ok (.i2l, 1) := by decide +kernel
theorem dX6_isSetting_48 : decode cX6_isSetting 48 = .ok (.lconst 0, 1) := by decide +kernel
theorem dX6_isSetting_49 : decode cX6_isSetting 49 = .ok (.ldc2_w 47, 3) := by decide +kernel
theorem dX6_isSetting_52 : decode cX6_isSetting 52 = .ok (.invokestatic 37, 3) := by decide +kernel
theorem dX6_isSetting_55 : decode cX6_isSetting 55 = .ok (.ireturn, 1) := by decide +kernel
theorem dX6_isSetting_56 : decode cX6_isSetting 56 = .ok (.iload_n 1, 1) := by decide +kernel
theorem dX6_isSetting_57 : decode cX6_isSetting 57 = .ok (.i2l, 1) := by decide +kernel
theorem dX6_isSetting_58 : decode cX6_isSetting 58 = .ok (.lconst 0, 1) := by decide +kernel
theorem dX6_isSetting_59 : decode cX6_isSetting 59 = .ok (.ldc2_w 49, 3) := by decide +kernel
theorem dX6_isSetting_62 : decode cX6_isSetting 62 = .ok (.invokestatic 37, 3) := by decide +kernel
theorem dX6_isSetting_65 : decode cX6_isSetting 65 = .ok (.ireturn, 1) := by decide +kernel
theorem dX6_isSetting_66 : decode cX6_isSetting 66 = .ok (.iload_n 1, 1) := by decide +kernel
theorem dX6_isSetting_67 : decode cX6_isSetting 67 = .ok (.i2l, 1) := by decide +kernel
theorem dX6_isSetting_68 : decode cX6_isSetting 68 = .ok (.lconst 1, 1) := by decide +kernel
theorem dX6_isSetting_69 : decode cX6_isSetting 69 = .ok (.ldc2_w 51, 3) := by decide +kernel
theorem dX6_isSetting_72 : decode cX6_isSetting 72 = .ok (.invokestatic 37, 3) := by decide +kernel
theorem dX6_isSetting_75 : decode cX6_isSetting 75 = .ok (.ireturn, 1) := by decide +kernel
theorem dX6_isSetting_76 : decode cX6_isSetting 76 = .ok (.iconst 0, 1) := by decide +kernel
theorem dX6_isSetting_77 : decode cX6_isSetting 77 = .ok (.ireturn, 1) := by decide +kernel
theorem dX6_isAway_0 : decode cX6_isAway 0 = .ok (.iconst 0, 1) := by decide +kernel
theorem dX6_isAway_1 : decode cX6_isAway 1 = .ok (.istore_n 3, 1) := by decide +kernel
theorem dX6_isAway_2 : decode cX6_isAway 2 = .ok (.iconst 0, 1) := by decide +kernel
theorem dX6_isAway_3 : decode cX6_isAway 3 = .ok (.istore 4, 2) := by decide +kernel
theorem dX6_isAway_5 : decode cX6_isAway 5 = .ok (.iload 4, 2) := by decide +kernel
theorem dX6_isAway_7 : decode cX6_isAway 7 = .ok (.aload_n 0, 1) := by decide +kernel
theorem dX6_isAway_8 : decode cX6_isAway 8 = .ok (.iload_n 1, 1) := by decide +kernel
theorem dX6_isAway_9 : decode cX6_isAway 9 = .ok (.bipush 14, 2) := by decide +kernel
theorem dX6_isAway_11 : decode cX6_isAway 11 = .ok (.invokestatic 53, 3) := by decide +kernel
theorem dX6_isAway_14 : decode cX6_isAway 14 = .ok (.if_icmp .ge 55, 3) := by decide +kernel
theorem dX6_isAway_17 : decode cX6_isAway 17 = .ok (.iload_n 3, 1) := by decide +kernel
theorem dX6_isAway_18 : decode cX6_isAway 18 = .ok (.ifCond .ne 39, 3) := by decide +kernel
theorem dX6_isAway_21 : decode cX6_isAway 21 = .ok (.iload_n 2, 1) := by decide +kernel
theorem dX6_isAway_22 : decode cX6_isAway 22 = .ok (.i2l, 1) := by decide +kernel
theorem dX6_isAway_23 : decode cX6_isAway 23 = .ok (.aload_n 0, 1) := by decide +kernel
theorem dX6_isAway_24 : decode cX6_isAway 24 = .ok (.iload_n 1, 1) := by decide +kernel
theorem dX6_isAway_25 : decode cX6_isAway 25 = .ok (.bipush 15, 2) := by decide +kernel
theorem dX6_isAway_27 : decode cX6_isAway 27 = .ok (.iconst 2, 1) := by decide +kernel
theorem dX6_isAway_28 : decode cX6_isAway 28 = .ok (.iload 4, 2) := by decide +kernel
theorem dX6_isAway_30 : decode cX6_isAway 30 = .ok (.imul, 1) := by decide +kernel
theorem dX6_isAway_31 : decode cX6_isAway 31 = .ok (.iadd, 1) := by decide +kernel
theorem dX6_isAway_32 : decode cX6_isAway 32 = .ok (.invokestatic 53, 3) := by decide +kernel
theorem dX6_isAway_35 : decode cX6_isAway 35 = .ok (.i2l, 1) := by decide +kernel
theorem dX6_isAway_36 : decode cX6_isAway 36 = .ok (.aload_n 0, 1) := by decide +kernel
theorem dX6_isAway_37 : decode cX6_isAway 37 = .ok (.iload_n 1, 1) := by decide +kernel
theorem dX6_isAway_38 : decode cX6_isAway 38 = .ok (.bipush 15, 2) := by decide +kernel
theorem dX6_isAway_40 : decode cX6_isAway 40 = .ok (.iconst 2, 1) := by decide +kernel
theorem dX6_isAway_41 : decode cX6_isAway 41 = .ok (.iload 4, 2) := by decide +kernel
theorem dX6_isAway_43 : decode cX6_isAway 43 = .ok (.imul, 1) := by decide +kernel
theorem dX6_isAway_44 : decode cX6_isAway 44 = .ok (.iadd, 1) := by decide +kernel
theorem dX6_isAway_45 : decode cX6_isAway 45 = .ok (.iconst 1, 1) := by decide +kernel
theorem dX6_isAway_46 : decode cX6_isAway 46 = .ok (.iadd, 1) := by decide +kernel
theorem dX6_isAway_47 : decode cX6_isAway 47 = .ok (.invokestatic 53, 3) := by decide +kernel
theorem dX6_isAway_50 : decode cX6_isAway 50 = .ok (.i2l, 1) := by decide +kernel
theorem dX6_isAway_51 : decode cX6_isAway 51 = .ok (.invokestatic 37, 3) := by decide +kernel
theorem dX6_isAway_54 : decode cX6_isAway 54 = .ok (.ifCond .eq 7, 3) := by decide +kernel
theorem dX6_isAway_57 : decode cX6_isAway 57 = .ok (.iconst 1, 1) := by decide +kernel
theorem dX6_isAway_58 : decode cX6_isAway 58 = .ok (.goto 4, 3) := by decide +kernel
theorem dX6_isAway_61 : decode cX6_isAway 61 = .ok (.iconst 0, 1) := by decide +kernel
theorem dX6_isAway_62 : decode cX6_isAway 62 = .ok (.istore_n 3, 1) := by decide +kernel
theorem dX6_isAway_63 : decode cX6_isAway 63 = .ok (.iinc 4 1, 3) := by decide +kernel
theorem dX6_isAway_66 : decode cX6_isAway 66 = .ok (.goto (-61), 3) := by decide +kernel
theorem dX6_isAway_69 : decode cX6_isAway 69 = .ok (.iload_n 3, 1) := by decide +kernel
theorem dX6_isAway_70 : decode cX6_isAway 70 = .ok (.ireturn, 1) := by decide +kernel
theorem dX6_dueOn_0 : decode cX6_dueOn 0 = .ok (.aload_n 0, 1) := by decide +kernel
theorem dX6_dueOn_1 : decode cX6_dueOn 1 = .ok (.iload_n 1, 1) := by decide +kernel
theorem dX6_dueOn_2 : decode cX6_dueOn 2 = .ok (.iload_n 2, 1) := by decide +kernel
theorem dX6_dueOn_3 : decode cX6_dueOn 3 = .ok (.invokestatic 57, 3) := by decide +kernel
theorem dX6_dueOn_6 : decode cX6_dueOn 6 = .ok (.ifCond .eq 7, 3) := by decide +kernel
theorem dX6_dueOn_9 : decode cX6_dueOn 9 = .ok (.iconst 0, 1) := by decide +kernel
theorem dX6_dueOn_10 : decode cX6_dueOn 10 = .ok (.goto 14, 3) := by decide +kernel
theorem dX6_dueOn_13 : decode cX6_dueOn 13 = .ok (.aload_n 0, 1) := by decide +kernel
theorem dX6_dueOn_14 : decode cX6_dueOn 14 = .ok (.iload_n 1, 1) := by decide +kernel
theorem dX6_dueOn_15 : decode cX6_dueOn 15 = .ok (.iconst 1, 1) := by decide +kernel
theorem dX6_dueOn_16 : decode cX6_dueOn 16 = .ok (.iload_n 2, 1) := by decide +kernel
theorem dX6_dueOn_17 : decode cX6_dueOn 17 = .ok (.bipush 7, 2) := by decide +kernel
theorem dX6_dueOn_19 : decode cX6_dueOn 19 = .ok (.irem, 1) := by decide +kernel
theorem dX6_dueOn_20 : decode cX6_dueOn 20 = .ok (.iadd, 1) := by decide +kernel
theorem dX6_dueOn_21 : decode cX6_dueOn 21 = .ok (.invokestatic 53, 3) := by decide +kernel
theorem dX6_dueOn_24 : decode cX6_dueOn 24 = .ok (.ireturn, 1) := by decide +kernel
theorem dX6_allDue_0 : decode cX6_allDue 0 = .ok (.iconst 0, 1) := by decide +kernel
theorem dX6_allDue_1 : decode cX6_allDue 1 = .ok (.istore_n 2, 1) := by decide +kernel
theorem dX6_allDue_2 : decode cX6_allDue 2 = .ok (.iconst 0, 1) := by decide +kernel
theorem dX6_allDue_3 : decode cX6_allDue 3 = .ok (.istore_n 3, 1) := by decide +kernel
theorem dX6_allDue_4 : decode cX6_allDue 4 = .ok (.iload_n 3, 1) := by decide +kernel
theorem dX6_allDue_5 : decode cX6_allDue 5 = .ok (.aload_n 0, 1) := by decide +kernel
theorem dX6_allDue_6 : decode cX6_allDue 6 = .ok (.iconst 0, 1) := by decide +kernel
theorem dX6_allDue_7 : decode cX6_allDue 7 = .ok (.iaload, 1) := by decide +kernel
theorem dX6_allDue_8 : decode cX6_allDue 8 = .ok (.if_icmp .ge 18, 3) := by decide +kernel
theorem dX6_allDue_11 : decode cX6_allDue 11 = .ok (.iload_n 2, 1) := by decide +kernel
theorem dX6_allDue_12 : decode cX6_allDue 12 = .ok (.aload_n 0, 1) := by decide +kernel
theorem dX6_allDue_13 : decode cX6_allDue 13 = .ok (.iload_n 3, 1) := by decide +kernel
theorem dX6_allDue_14 : decode cX6_allDue 14 = .ok (.iload_n 1, 1) := by decide +kernel
theorem dX6_allDue_15 : decode cX6_allDue 15 = .ok (.invokestatic 61, 3) := by decide +kernel
theorem dX6_allDue_18 : decode cX6_allDue 18 = .ok (.iadd, 1) := by decide +kernel
theorem dX6_allDue_19 : decode cX6_allDue 19 = .ok (.istore_n 2, 1) := by decide +kernel
theorem dX6_allDue_20 : decode cX6_allDue 20 = .ok (.iinc 3 1, 3) := by decide +kernel
theorem dX6_allDue_23 : decode cX6_allDue 23 = .ok (.goto (-19), 3) := by decide +kernel
theorem dX6_allDue_26 : decode cX6_allDue 26 = .ok (.iload_n 2, 1) := by decide +kernel
theorem dX6_allDue_27 : decode cX6_allDue 27 = .ok (.ireturn, 1) := by decide +kernel
theorem dX6_isOpen_0 : decode cX6_isOpen 0 = .ok (.aload_n 0, 1) := by decide +kernel
theorem dX6_isOpen_1 : decode cX6_isOpen 1 = .ok (.bipush 20, 2) := by decide +kernel
theorem dX6_isOpen_3 : decode cX6_isOpen 3 = .ok (.bipush 7, 2) := by decide +kernel
theorem dX6_isOpen_5 : decode cX6_isOpen 5 = .ok (.aload_n 0, 1) := by decide +kernel
theorem dX6_isOpen_6 : decode cX6_isOpen 6 = .ok (.iload_n 1, 1) := by decide +kernel
theorem dX6_isOpen_7 : decode cX6_isOpen 7 = .ok (.iconst 0, 1) := by decide +kernel
theorem dX6_isOpen_8 : decode cX6_isOpen 8 = .ok (.invokestatic 53, 3) := by decide +kernel
theorem dX6_isOpen_11 : decode cX6_isOpen 11 = .ok (.imul, 1) := by decide +kernel
theorem dX6_isOpen_12 : decode cX6_isOpen 12 = .ok (.iadd, 1) := by decide +kernel
theorem dX6_isOpen_13 : decode cX6_isOpen 13 = .ok (.iload_n 2, 1) := by decide +kernel
theorem dX6_isOpen_14 : decode cX6_isOpen 14 = .ok (.bipush 7, 2) := by decide +kernel
theorem dX6_isOpen_16 : decode cX6_isOpen 16 = .ok (.irem, 1) := by decide +kernel
theorem dX6_isOpen_17 : decode cX6_isOpen 17 = .ok (.iadd, 1) := by decide +kernel
theorem dX6_isOpen_18 : decode cX6_isOpen 18 = .ok (.iaload, 1) := by decide +kernel
theorem dX6_isOpen_19 : decode cX6_isOpen 19 = .ok (.ifCond .ne 7, 3) := by decide +kernel
theorem dX6_isOpen_22 : decode cX6_isOpen 22 = .ok (.iconst 1, 1) := by decide +kernel
theorem dX6_isOpen_23 : decode cX6_isOpen 23 = .ok (.goto 4, 3) := by decide +kernel
theorem dX6_isOpen_26 : decode cX6_isOpen 26 = .ok (.iconst 0, 1) := by decide +kernel
theorem dX6_isOpen_27 : decode cX6_isOpen 27 = .ok (.ireturn, 1) := by decide +kernel
theorem dX6_credits_0 : decode cX6_credits 0 = .ok (.iconst 0, 1) := by decide +kernel
theorem dX6_credits_1 : decode cX6_credits 1 = .ok (.istore_n 1, 1) := by decide +kernel
theorem dX6_credits_2 : decode cX6_credits 2 = .ok (.iconst 0, 1) := by decide +kernel
theorem dX6_credits_3 : decode cX6_credits 3 = .ok (.istore_n 2, 1) := by decide +kernel
theorem dX6_credits_4 : decode cX6_credits 4 = .ok (.iload_n 2, 1) := by decide +kernel
theorem dX6_credits_5 : decode cX6_credits 5 = .ok (.aload_n 0, 1) := by decide +kernel
theorem dX6_credits_6 : decode cX6_credits 6 = .ok (.iconst 0, 1) := by decide +kernel
theorem dX6_credits_7 : decode cX6_credits 7 = .ok (.iaload, 1) := by decide +kernel
theorem dX6_credits_8 : decode cX6_credits 8 = .ok (.if_icmp .ge 19, 3) := by decide +kernel
theorem dX6_credits_11 : decode cX6_credits 11 = .ok (.iload_n 1, 1) := by decide +kernel
theorem dX6_credits_12 : decode cX6_credits 12 = .ok (.aload_n 0, 1) := by decide +kernel
theorem dX6_credits_13 : decode cX6_credits 13 = .ok (.iload_n 2, 1) := by decide +kernel
theorem dX6_credits_14 : decode cX6_credits 14 = .ok (.bipush 8, 2) := by decide +kernel
theorem dX6_credits_16 : decode cX6_credits 16 = .ok (.invokestatic 53, 3) := by decide +kernel
theorem dX6_credits_19 : decode cX6_credits 19 = .ok (.iadd, 1) := by decide +kernel
theorem dX6_credits_20 : decode cX6_credits 20 = .ok (.istore_n 1, 1) := by decide +kernel
theorem dX6_credits_21 : decode cX6_credits 21 = .ok (.iinc 2 1, 3) := by decide +kernel
theorem dX6_credits_24 : decode cX6_credits 24 = .ok (.goto (-20), 3) := by decide +kernel
theorem dX6_credits_27 : decode cX6_credits 27 = .ok (.iload_n 1, 1) := by decide +kernel
theorem dX6_credits_28 : decode cX6_credits 28 = .ok (.ireturn, 1) := by decide +kernel
theorem dX6_baked_0 : decode cX6_baked 0 = .ok (.aload_n 0, 1) := by decide +kernel
theorem dX6_baked_1 : decode cX6_baked 1 = .ok (.iload_n 1, 1) := by decide +kernel
theorem dX6_baked_2 : decode cX6_baked 2 = .ok (.invokestatic 64, 3) := by decide +kernel
theorem dX6_baked_5 : decode cX6_baked 5 = .ok (.aload_n 0, 1) := by decide +kernel
theorem dX6_baked_6 : decode cX6_baked 6 = .ok (.bipush 12, 2) := by decide +kernel
theorem dX6_baked_8 : decode cX6_baked 8 = .ok (.iaload, 1) := by decide +kernel
theorem dX6_baked_9 : decode cX6_baked 9 = .ok (.iadd, 1) := by decide +kernel
theorem dX6_baked_10 : decode cX6_baked 10 = .ok (.istore_n 2, 1) := by decide +kernel
theorem dX6_baked_11 : decode cX6_baked 11 = .ok (.iload_n 2, 1) := by decide +kernel
theorem dX6_baked_12 : decode cX6_baked 12 = .ok (.aload_n 0, 1) := by decide +kernel
theorem dX6_baked_13 : decode cX6_baked 13 = .ok (.bipush 11, 2) := by decide +kernel
theorem dX6_baked_15 : decode cX6_baked 15 = .ok (.iaload, 1) := by decide +kernel
theorem dX6_baked_16 : decode cX6_baked 16 = .ok (.if_icmp .ge 7, 3) := by decide +kernel
theorem dX6_baked_19 : decode cX6_baked 19 = .ok (.iload_n 2, 1) := by decide +kernel
theorem dX6_baked_20 : decode cX6_baked 20 = .ok (.goto 7, 3) := by decide +kernel
theorem dX6_baked_23 : decode cX6_baked 23 = .ok (.aload_n 0, 1) := by decide +kernel
theorem dX6_baked_24 : decode cX6_baked 24 = .ok (.bipush 11, 2) := by decide +kernel
theorem dX6_baked_26 : decode cX6_baked 26 = .ok (.iaload, 1) := by decide +kernel
theorem dX6_baked_27 : decode cX6_baked 27 = .ok (.ireturn, 1) := by decide +kernel
theorem dX6_placeOf_0 : decode cX6_placeOf 0 = .ok (.iconst 0, 1) := by decide +kernel
theorem dX6_placeOf_1 : decode cX6_placeOf 1 = .ok (.istore_n 2, 1) := by decide +kernel
theorem dX6_placeOf_2 : decode cX6_placeOf 2 = .ok (.aload_n 0, 1) := by decide +kernel
theorem dX6_placeOf_3 : decode cX6_placeOf 3 = .ok (.bipush 16, 2) := by decide +kernel
theorem dX6_placeOf_5 : decode cX6_placeOf 5 = .ok (.iload_n 2, 1) := by decide +kernel
theorem dX6_placeOf_6 : decode cX6_placeOf 6 = .ok (.iadd, 1) := by decide +kernel
theorem dX6_placeOf_7 : decode cX6_placeOf 7 = .ok (.iaload, 1) := by decide +kernel
theorem dX6_placeOf_8 : decode cX6_placeOf 8 = .ok (.iload_n 1, 1) := by decide +kernel
theorem dX6_placeOf_9 : decode cX6_placeOf 9 = .ok (.if_icmp .eq 9, 3) := by decide +kernel
theorem dX6_placeOf_12 : decode cX6_placeOf 12 = .ok (.iinc 2 1, 3) := by decide +kernel
theorem dX6_placeOf_15 : decode cX6_placeOf 15 = .ok (.goto (-13), 3) := by decide +kernel
theorem dX6_placeOf_18 : decode cX6_placeOf 18 = .ok (.iload_n 2, 1) := by decide +kernel
theorem dX6_placeOf_19 : decode cX6_placeOf 19 = .ok (.ireturn, 1) := by decide +kernel
theorem dX6_inRound_0 : decode cX6_inRound 0 = .ok (.iload_n 1, 1) := by decide +kernel
theorem dX6_inRound_1 : decode cX6_inRound 1 = .ok (.istore_n 2, 1) := by decide +kernel
theorem dX6_inRound_2 : decode cX6_inRound 2 = .ok (.iconst 0, 1) := by decide +kernel
theorem dX6_inRound_3 : decode cX6_inRound 3 = .ok (.istore_n 3, 1) := by decide +kernel
theorem dX6_inRound_4 : decode cX6_inRound 4 = .ok (.iload_n 3, 1) := by decide +kernel
theorem dX6_inRound_5 : decode cX6_inRound 5 = .ok (.iconst 4, 1) := by decide +kernel
theorem dX6_inRound_6 : decode cX6_inRound 6 = .ok (.if_icmp .ge 52, 3) := by decide +kernel
theorem dX6_inRound_9 : decode cX6_inRound 9 = .ok (.iconst 0, 1) := by decide +kernel
theorem dX6_inRound_10 : decode cX6_inRound 10 = .ok (.istore 4, 2) := by decide +kernel
theorem dX6_inRound_12 : decode cX6_inRound 12 = .ok (.iload 4, 2) := by decide +kernel
theorem dX6_inRound_14 : decode cX6_inRound 14 = .ok (.aload_n 0, 1) := by decide +kernel
theorem dX6_inRound_15 : decode cX6_inRound 15 = .ok (.iconst 0, 1) := by decide +kernel
theorem dX6_inRound_16 : decode cX6_inRound 16 = .ok (.iaload, 1) := by decide +kernel
theorem dX6_inRound_17 : decode cX6_inRound 17 = .ok (.if_icmp .ge 35, 3) := by decide +kernel
theorem dX6_inRound_20 : decode cX6_inRound 20 = .ok (.aload_n 0, 1) := by decide +kernel
theorem dX6_inRound_21 : decode cX6_inRound 21 = .ok (.iload 4, 2) := by decide +kernel
theorem dX6_inRound_23 : decode cX6_inRound 23 = .ok (.iconst 0, 1) := by decide +kernel
theorem dX6_inRound_24 : decode cX6_inRound 24 = .ok (.invokestatic 53, 3) := by decide +kernel
theorem dX6_inRound_27 : decode cX6_inRound 27 = .ok (.aload_n 0, 1) := by decide +kernel
theorem dX6_inRound_28 : decode cX6_inRound 28 = .ok (.bipush 16, 2) := by decide +kernel
theorem dX6_inRound_30 : decode cX6_inRound 30 = .ok (.iload_n 3, 1) := by decide +kernel
theorem dX6_inRound_31 : decode cX6_inRound 31 = .ok (.iadd, 1) := by decide +kernel
theorem dX6_inRound_32 : decode cX6_inRound 32 = .ok (.iaload, 1) := by decide +kernel
theorem dX6_inRound_33 : decode cX6_inRound 33 = .ok (.if_icmp .ne 13, 3) := by decide +kernel
theorem dX6_inRound_36 : decode cX6_inRound 36 = .ok (.iload_n 2, 1) := by decide +kernel
theorem dX6_inRound_37 : decode cX6_inRound 37 = .ok (.ifCond .ne 6, 3) := by decide +kernel
theorem dX6_inRound_40 : decode cX6_inRound 40 = .ok (.iload 4, 2) := by decide +kernel
theorem dX6_inRound_42 : decode cX6_inRound 42 = .ok (.ireturn, 1) := by decide +kernel
theorem dX6_inRound_43 : decode cX6_inRound 43 = .ok (.iinc 2 (-1), 3) := by decide +kernel
theorem dX6_inRound_46 : decode cX6_inRound 46 = .ok (.iinc 4 1, 3) := by decide +kernel
theorem dX6_inRound_49 : decode cX6_inRound 49 = .ok (.goto (-37), 3) := by decide +kernel
theorem dX6_inRound_52 : decode cX6_inRound 52 = .ok (.iinc 3 1, 3) := by decide +kernel
theorem dX6_inRound_55 : decode cX6_inRound 55 = .ok (.goto (-51), 3) := by decide +kernel
theorem dX6_inRound_58 : decode cX6_inRound 58 = .ok (.iconst (-1), 1) := by decide +kernel
theorem dX6_inRound_59 : decode cX6_inRound 59 = .ok (.ireturn, 1) := by decide +kernel
theorem dX6_giveDue_0 : decode cX6_giveDue 0 = .ok (.aload_n 0, 1) := by decide +kernel
theorem dX6_giveDue_1 : decode cX6_giveDue 1 = .ok (.iload_n 1, 1) := by decide +kernel
theorem dX6_giveDue_2 : decode cX6_giveDue 2 = .ok (.iload_n 2, 1) := by decide +kernel
theorem dX6_giveDue_3 : decode cX6_giveDue 3 = .ok (.invokestatic 61, 3) := by decide +kernel
theorem dX6_giveDue_6 : decode cX6_giveDue 6 = .ok (.istore 4, 2) := by decide +kernel
theorem dX6_giveDue_8 : decode cX6_giveDue 8 = .ok (.aload_n 0, 1) := by decide +kernel
theorem dX6_giveDue_9 : decode cX6_giveDue 9 = .ok (.iload_n 1, 1) := by decide +kernel
theorem dX6_giveDue_10 : decode cX6_giveDue 10 = .ok (.iload_n 2, 1) := by decide +kernel
theorem dX6_giveDue_11 : decode cX6_giveDue 11 = .ok (.invokestatic 68, 3) := by decide +kernel
theorem dX6_giveDue_14 : decode cX6_giveDue 14 = .ok (.ifCond .ne 7, 3) := by decide +kernel
theorem dX6_giveDue_17 : decode cX6_giveDue 17 = .ok (.iconst 0, 1) := by decide +kernel
theorem dX6_giveDue_18 : decode cX6_giveDue 18 = .ok (.goto 15, 3) := by decide +kernel
theorem dX6_giveDue_21 : decode cX6_giveDue 21 = .ok (.iload 4, 2) := by decide +kernel
theorem dX6_giveDue_23 : decode cX6_giveDue 23 = .ok (.iload_n 3, 1) := by decide +kernel
theorem dX6_giveDue_24 : decode cX6_giveDue 24 = .ok (.if_icmp .ge 8, 3) := by decide +kernel
theorem dX6_giveDue_27 : decode cX6_giveDue 27 = .ok (.iload 4, 2) := by decide +kernel
theorem dX6_giveDue_29 : decode cX6_giveDue 29 = .ok (.goto 4, 3) := by decide +kernel
theorem dX6_giveDue_32 : decode cX6_giveDue 32 = .ok (.iload_n 3, 1) := by decide +kernel
theorem dX6_giveDue_33 : decode cX6_giveDue 33 = .ok (.istore 5, 2) := by decide +kernel
theorem dX6_giveDue_35 : decode cX6_giveDue 35 = .ok (.aload_n 0, 1) := by decide +kernel
theorem dX6_giveDue_36 : decode cX6_giveDue 36 = .ok (.bipush 7, 2) := by decide +kernel
theorem dX6_giveDue_38 : decode cX6_giveDue 38 = .ok (.dup2, 1) := by decide +kernel
theorem dX6_giveDue_39 : decode cX6_giveDue 39 = .ok (.iaload, 1) := by decide +kernel
theorem dX6_giveDue_40 : decode cX6_giveDue 40 = .ok (.iload 4, 2) := by decide +kernel
theorem dX6_giveDue_42 : decode cX6_giveDue 42 = .ok (.aload_n 0, 1) := by decide +kernel
theorem dX6_giveDue_43 : decode cX6_giveDue 43 = .ok (.bipush 15, 2) := by decide +kernel
theorem dX6_giveDue_45 : decode cX6_giveDue 45 = .ok (.iaload, 1) := by decide +kernel
theorem dX6_giveDue_46 : decode cX6_giveDue 46 = .ok (.imul, 1) := by decide +kernel
theorem dX6_giveDue_47 : decode cX6_giveDue 47 = .ok (.iadd, 1) := by decide +kernel
theorem dX6_giveDue_48 : decode cX6_giveDue 48 = .ok (.iastore, 1) := by decide +kernel
theorem dX6_giveDue_49 : decode cX6_giveDue 49 = .ok (.aload_n 0, 1) := by decide +kernel
theorem dX6_giveDue_50 : decode cX6_giveDue 50 = .ok (.iconst 3, 1) := by decide +kernel
theorem dX6_giveDue_51 : decode cX6_giveDue 51 = .ok (.dup2, 1) := by decide +kernel
theorem dX6_giveDue_52 : decode cX6_giveDue 52 = .ok (.iaload, 1) := by decide +kernel
theorem dX6_giveDue_53 : decode cX6_giveDue 53 = .ok (.iload 5, 2) := by decide +kernel
theorem dX6_giveDue_55 : decode cX6_giveDue 55 = .ok (.iadd, 1) := by decide +kernel
theorem dX6_giveDue_56 : decode cX6_giveDue 56 = .ok (.iastore, 1) := by decide +kernel
theorem dX6_giveDue_57 : decode cX6_giveDue 57 = .ok (.aload_n 0, 1) := by decide +kernel
theorem dX6_giveDue_58 : decode cX6_giveDue 58 = .ok (.iload_n 1, 1) := by decide +kernel
theorem dX6_giveDue_59 : decode cX6_giveDue 59 = .ok (.bipush 9, 2) := by decide +kernel
theorem dX6_giveDue_61 : decode cX6_giveDue 61 = .ok (.iload 5, 2) := by decide +kernel
theorem dX6_giveDue_63 : decode cX6_giveDue 63 = .ok (.invokestatic 71, 3) := by decide +kernel
theorem dX6_giveDue_66 : decode cX6_giveDue 66 = .ok (.aload_n 0, 1) := by decide +kernel
theorem dX6_giveDue_67 : decode cX6_giveDue 67 = .ok (.iload_n 1, 1) := by decide +kernel
theorem dX6_giveDue_68 : decode cX6_giveDue 68 = .ok (.bipush 8, 2) := by decide +kernel
theorem dX6_giveDue_70 : decode cX6_giveDue 70 = .ok (.iload 4, 2) := by decide +kernel
theorem dX6_giveDue_72 : decode cX6_giveDue 72 = .ok (.iload 5, 2) := by decide +kernel
theorem dX6_giveDue_74 : decode cX6_giveDue 74 = .ok (.isub, 1) := by decide +kernel
theorem dX6_giveDue_75 : decode cX6_giveDue 75 = .ok (.invokestatic 71, 3) := by decide +kernel
theorem dX6_giveDue_78 : decode cX6_giveDue 78 = .ok (.iload 4, 2) := by decide +kernel
theorem dX6_giveDue_80 : decode cX6_giveDue 80 = .ok (.ifCond .le 12, 3) := by decide +kernel
theorem dX6_giveDue_83 : decode cX6_giveDue 83 = .ok (.iload 5, 2) := by decide +kernel
theorem dX6_giveDue_85 : decode cX6_giveDue 85 = .ok (.ifCond .ne 7, 3) := by decide +kernel
theorem dX6_giveDue_88 : decode cX6_giveDue 88 = .ok (.iconst 1, 1) := by decide +kernel
theorem dX6_giveDue_89 : decode cX6_giveDue 89 = .ok (.goto 4, 3) := by decide +kernel
theorem dX6_giveDue_92 : decode cX6_giveDue 92 = .ok (.iconst 0, 1) := by decide +kernel
theorem dX6_giveDue_93 : decode cX6_giveDue 93 = .ok (.istore 6, 2) := by decide +kernel
theorem dX6_giveDue_95 : decode cX6_giveDue 95 = .ok (.iload 5, 2) := by decide +kernel
theorem dX6_giveDue_97 : decode cX6_giveDue 97 = .ok (.ifCond .le 14, 3) := by decide +kernel
theorem dX6_giveDue_100 : decode cX6_giveDue 100 = .ok (.iload 5, 2) := by decide +kernel
theorem dX6_giveDue_102 : decode cX6_giveDue 102 = .ok (.iload 4, 2) := by decide +kernel
theorem dX6_giveDue_104 : decode cX6_giveDue 104 = .ok (.if_icmp .ge 7, 3) := by decide +kernel
theorem dX6_giveDue_107 : decode cX6_giveDue 107 = .ok (.iconst 1, 1) := by decide +kernel
theorem dX6_giveDue_108 : decode cX6_giveDue 108 = .ok (.goto 4, 3) := by decide +kernel
theorem dX6_giveDue_111 : decode cX6_giveDue 111 = .ok (.iconst 0, 1) := by decide +kernel
theorem dX6_giveDue_112 : decode cX6_giveDue 112 = .ok (.istore 7, 2) := by decide +kernel
theorem dX6_giveDue_114 : decode cX6_giveDue 114 = .ok (.aload_n 0, 1) := by decide +kernel
theorem dX6_giveDue_115 : decode cX6_giveDue 115 = .ok (.bipush 9, 2) := by decide +kernel
theorem dX6_giveDue_117 : decode cX6_giveDue 117 = .ok (.dup2, 1) := by decide +kernel
theorem dX6_giveDue_118 : decode cX6_giveDue 118 = .ok (.iaload, 1) := by decide +kernel
theorem dX6_giveDue_119 : decode cX6_giveDue 119 = .ok (.iload 6, 2) := by decide +kernel
theorem dX6_giveDue_121 : decode cX6_giveDue 121 = .ok (.iadd, 1) := by decide +kernel
theorem dX6_giveDue_122 : decode cX6_giveDue 122 = .ok (.iastore, 1) := by decide +kernel
theorem dX6_giveDue_123 : decode cX6_giveDue 123 = .ok (.aload_n 0, 1) := by decide +kernel
theorem dX6_giveDue_124 : decode cX6_giveDue 124 = .ok (.bipush 10, 2) := by decide +kernel
theorem dX6_giveDue_126 : decode cX6_giveDue 126 = .ok (.dup2, 1) := by decide +kernel
theorem dX6_giveDue_127 : decode cX6_giveDue 127 = .ok (.iaload, 1) := by decide +kernel
theorem dX6_giveDue_128 : decode cX6_giveDue 128 = .ok (.iload 7, 2) := by decide +kernel
theorem dX6_giveDue_130 : decode cX6_giveDue 130 = .ok (.iadd, 1) := by decide +kernel
theorem dX6_giveDue_131 : decode cX6_giveDue 131 = .ok (.iastore, 1) := by decide +kernel
theorem dX6_giveDue_132 : decode cX6_giveDue 132 = .ok (.aload_n 0, 1) := by decide +kernel
theorem dX6_giveDue_133 : decode cX6_giveDue 133 = .ok (.iload_n 1, 1) := by decide +kernel
theorem dX6_giveDue_134 : decode cX6_giveDue 134 = .ok (.bipush 12, 2) := by decide +kernel
theorem dX6_giveDue_136 : decode cX6_giveDue 136 = .ok (.iload 6, 2) := by decide +kernel
theorem dX6_giveDue_138 : decode cX6_giveDue 138 = .ok (.invokestatic 71, 3) := by decide +kernel
theorem dX6_giveDue_141 : decode cX6_giveDue 141 = .ok (.aload_n 0, 1) := by decide +kernel
theorem dX6_giveDue_142 : decode cX6_giveDue 142 = .ok (.iload_n 1, 1) := by decide +kernel
theorem dX6_giveDue_143 : decode cX6_giveDue 143 = .ok (.bipush 13, 2) := by decide +kernel
theorem dX6_giveDue_145 : decode cX6_giveDue 145 = .ok (.iload 7, 2) := by decide +kernel
theorem dX6_giveDue_147 : decode cX6_giveDue 147 = .ok (.invokestatic 71, 3) := by decide +kernel
theorem dX6_giveDue_150 : decode cX6_giveDue 150 = .ok (.iload_n 3, 1) := by decide +kernel
theorem dX6_giveDue_151 : decode cX6_giveDue 151 = .ok (.iload 5, 2) := by decide +kernel
theorem dX6_giveDue_153 : decode cX6_giveDue 153 = .ok (.isub, 1) := by decide +kernel
theorem dX6_giveDue_154 : decode cX6_giveDue 154 = .ok (.ireturn, 1) := by decide +kernel
theorem dX6_giveGood_0 : decode cX6_giveGood 0 = .ok (.aload_n 0, 1) := by decide +kernel
theorem dX6_giveGood_1 : decode cX6_giveGood 1 = .ok (.iload_n 1, 1) := by decide +kernel
theorem dX6_giveGood_2 : decode cX6_giveGood 2 = .ok (.iload_n 2, 1) := by decide +kernel
theorem dX6_giveGood_3 : decode cX6_giveGood 3 = .ok (.invokestatic 68, 3) := by decide +kernel
theorem dX6_giveGood_6 : decode cX6_giveGood 6 = .ok (.ifCond .eq 16, 3) := by decide +kernel
theorem dX6_giveGood_9 : decode cX6_giveGood 9 = .ok (.aload_n 0, 1) := by decide +kernel
theorem dX6_giveGood_10 : decode cX6_giveGood 10 = .ok (.iload_n 1, 1) := by decide +kernel
theorem dX6_giveGood_11 : decode cX6_giveGood 11 = .ok (.iload_n 2, 1) := by decide +kernel
theorem dX6_giveGood_12 : decode cX6_giveGood 12 = .ok (.invokestatic 57, 3) := by decide +kernel
theorem dX6_giveGood_15 : decode cX6_giveGood 15 = .ok (.ifCond .ne 7, 3) := by decide +kernel
theorem dX6_giveGood_18 : decode cX6_giveGood 18 = .ok (.iconst 1, 1) := by decide +kernel
theorem dX6_giveGood_19 : decode cX6_giveGood 19 = .ok (.goto 4, 3) := by decide +kernel
theorem dX6_giveGood_22 : decode cX6_giveGood 22 = .ok (.iconst 0, 1) := by decide +kernel
theorem dX6_giveGood_23 : decode cX6_giveGood 23 = .ok (.istore 4, 2) := by decide +kernel
theorem dX6_giveGood_25 : decode cX6_giveGood 25 = .ok (.aload_n 0, 1) := by decide +kernel
theorem dX6_giveGood_26 : decode cX6_giveGood 26 = .ok (.iload_n 1, 1) := by decide +kernel
theorem dX6_giveGood_27 : decode cX6_giveGood 27 = .ok (.bipush 8, 2) := by decide +kernel
theorem dX6_giveGood_29 : decode cX6_giveGood 29 = .ok (.invokestatic 53, 3) := by decide +kernel
theorem dX6_giveGood_32 : decode cX6_giveGood 32 = .ok (.aload_n 0, 1) := by decide +kernel
theorem dX6_giveGood_33 : decode cX6_giveGood 33 = .ok (.bipush 13, 2) := by decide +kernel
theorem dX6_giveGood_35 : decode cX6_giveGood 35 = .ok (.iaload, 1) := by decide +kernel
theorem dX6_giveGood_36 : decode cX6_giveGood 36 = .ok (.if_icmp .ge 13, 3) := by decide +kernel
theorem dX6_giveGood_39 : decode cX6_giveGood 39 = .ok (.aload_n 0, 1) := by decide +kernel
theorem dX6_giveGood_40 : decode cX6_giveGood 40 = .ok (.iload_n 1, 1) := by decide +kernel
theorem dX6_giveGood_41 : decode cX6_giveGood 41 = .ok (.bipush 8, 2) := by decide +kernel
theorem dX6_giveGood_43 : decode cX6_giveGood 43 = .ok (.invokestatic 53, 3) := by decide +kernel
theorem dX6_giveGood_46 : decode cX6_giveGood 46 = .ok (.goto 7, 3) := by decide +kernel
theorem dX6_giveGood_49 : decode cX6_giveGood 49 = .ok (.aload_n 0, 1) := by decide +kernel
theorem dX6_giveGood_50 : decode cX6_giveGood 50 = .ok (.bipush 13, 2) := by decide +kernel
theorem dX6_giveGood_52 : decode cX6_giveGood 52 = .ok (.iaload, 1) := by decide +kernel
theorem dX6_giveGood_53 : decode cX6_giveGood 53 = .ok (.istore 5, 2) := by decide +kernel
theorem dX6_giveGood_55 : decode cX6_giveGood 55 = .ok (.iload 4, 2) := by decide +kernel
theorem dX6_giveGood_57 : decode cX6_giveGood 57 = .ok (.ifCond .ne 7, 3) := by decide +kernel
theorem dX6_giveGood_60 : decode cX6_giveGood 60 = .ok (.iconst 0, 1) := by decide +kernel
theorem dX6_giveGood_61 : decode cX6_giveGood 61 = .ok (.goto 15, 3) := by decide +kernel
theorem dX6_giveGood_64 : decode cX6_giveGood 64 = .ok (.iload 5, 2) := by decide +kernel
theorem dX6_giveGood_66 : decode cX6_giveGood 66 = .ok (.iload_n 3, 1) := by decide +kernel
theorem dX6_giveGood_67 : decode cX6_giveGood 67 = .ok (.if_icmp .ge 8, 3) := by decide +kernel
theorem dX6_giveGood_70 : decode cX6_giveGood 70 = .ok (.iload 5, 2) := by decide +kernel
theorem dX6_giveGood_72 : decode cX6_giveGood 72 = .ok (.goto 4, 3) := by decide +kernel
theorem dX6_giveGood_75 : decode cX6_giveGood 75 = .ok (.iload_n 3, 1) := by decide +kernel
theorem dX6_giveGood_76 : decode cX6_giveGood 76 = .ok (.istore 6, 2) := by decide +kernel
theorem dX6_giveGood_78 : decode cX6_giveGood 78 = .ok (.aload_n 0, 1) := by decide +kernel
theorem dX6_giveGood_79 : decode cX6_giveGood 79 = .ok (.iconst 4, 1) := by decide +kernel
theorem dX6_giveGood_80 : decode cX6_giveGood 80 = .ok (.dup2, 1) := by decide +kernel
theorem dX6_giveGood_81 : decode cX6_giveGood 81 = .ok (.iaload, 1) := by decide +kernel
theorem dX6_giveGood_82 : decode cX6_giveGood 82 = .ok (.iload 6, 2) := by decide +kernel
theorem dX6_giveGood_84 : decode cX6_giveGood 84 = .ok (.iadd, 1) := by decide +kernel
theorem dX6_giveGood_85 : decode cX6_giveGood 85 = .ok (.iastore, 1) := by decide +kernel
theorem dX6_giveGood_86 : decode cX6_giveGood 86 = .ok (.aload_n 0, 1) := by decide +kernel
theorem dX6_giveGood_87 : decode cX6_giveGood 87 = .ok (.iload_n 1, 1) := by decide +kernel
theorem dX6_giveGood_88 : decode cX6_giveGood 88 = .ok (.bipush 10, 2) := by decide +kernel
theorem dX6_giveGood_90 : decode cX6_giveGood 90 = .ok (.iload 6, 2) := by decide +kernel
theorem dX6_giveGood_92 : decode cX6_giveGood 92 = .ok (.invokestatic 71, 3) := by decide +kernel
theorem dX6_giveGood_95 : decode cX6_giveGood 95 = .ok (.aload_n 0, 1) := by decide +kernel
theorem dX6_giveGood_96 : decode cX6_giveGood 96 = .ok (.iload_n 1, 1) := by decide +kernel
theorem dX6_giveGood_97 : decode cX6_giveGood 97 = .ok (.bipush 8, 2) := by decide +kernel
theorem dX6_giveGood_99 : decode cX6_giveGood 99 = .ok (.iload 6, 2) := by decide +kernel
theorem dX6_giveGood_101 : decode cX6_giveGood 101 = .ok (.ineg, 1) := by decide +kernel
theorem dX6_giveGood_102 : decode cX6_giveGood 102 = .ok (.invokestatic 71, 3) := by decide +kernel
theorem dX6_giveGood_105 : decode cX6_giveGood 105 = .ok (.iload_n 3, 1) := by decide +kernel
theorem dX6_giveGood_106 : decode cX6_giveGood 106 = .ok (.iload 6, 2) := by decide +kernel
theorem dX6_giveGood_108 : decode cX6_giveGood 108 = .ok (.isub, 1) := by decide +kernel
theorem dX6_giveGood_109 : decode cX6_giveGood 109 = .ok (.ireturn, 1) := by decide +kernel
theorem dX6_payBack_0 : decode cX6_payBack 0 = .ok (.aload_n 0, 1) := by decide +kernel
theorem dX6_payBack_1 : decode cX6_payBack 1 = .ok (.iload_n 1, 1) := by decide +kernel
theorem dX6_payBack_2 : decode cX6_payBack 2 = .ok (.bipush 8, 2) := by decide +kernel
theorem dX6_payBack_4 : decode cX6_payBack 4 = .ok (.invokestatic 53, 3) := by decide +kernel
theorem dX6_payBack_7 : decode cX6_payBack 7 = .ok (.aload_n 0, 1) := by decide +kernel
theorem dX6_payBack_8 : decode cX6_payBack 8 = .ok (.bipush 14, 2) := by decide +kernel
theorem dX6_payBack_10 : decode cX6_payBack 10 = .ok (.iaload, 1) := by decide +kernel
theorem dX6_payBack_11 : decode cX6_payBack 11 = .ok (.isub, 1) := by decide +kernel
theorem dX6_payBack_12 : decode cX6_payBack 12 = .ok (.istore_n 2, 1) := by decide +kernel
theorem dX6_payBack_13 : decode cX6_payBack 13 = .ok (.iload_n 2, 1) := by decide +kernel
theorem dX6_payBack_14 : decode cX6_payBack 14 = .ok (.ifCond .le 41, 3) := by decide +kernel
theorem dX6_payBack_17 : decode cX6_payBack 17 = .ok (.aload_n 0, 1) := by decide +kernel
theorem dX6_payBack_18 : decode cX6_payBack 18 = .ok (.iload_n 1, 1) := by decide +kernel
theorem dX6_payBack_19 : decode cX6_payBack 19 = .ok (.bipush 8, 2) := by decide +kernel
theorem dX6_payBack_21 : decode cX6_payBack 21 = .ok (.iload_n 2, 1) := by decide +kernel
theorem dX6_payBack_22 : decode cX6_payBack 22 = .ok (.ineg, 1) := by decide +kernel
theorem dX6_payBack_23 : decode cX6_payBack 23 = .ok (.invokestatic 71, 3) := by decide +kernel
theorem dX6_payBack_26 : decode cX6_payBack 26 = .ok (.aload_n 0, 1) := by decide +kernel
theorem dX6_payBack_27 : decode cX6_payBack 27 = .ok (.iload_n 1, 1) := by decide +kernel
theorem dX6_payBack_28 : decode cX6_payBack 28 = .ok (.bipush 11, 2) := by decide +kernel
theorem dX6_payBack_30 : decode cX6_payBack 30 = .ok (.iload_n 2, 1) := by decide +kernel
theorem dX6_payBack_31 : decode cX6_payBack 31 = .ok (.invokestatic 71, 3) := by decide +kernel
theorem dX6_payBack_34 : decode cX6_payBack 34 = .ok (.aload_n 0, 1) := by decide +kernel
theorem dX6_payBack_35 : decode cX6_payBack 35 = .ok (.bipush 6, 2) := by decide +kernel
theorem dX6_payBack_37 : decode cX6_payBack 37 = .ok (.dup2, 1) := by decide +kernel
theorem dX6_payBack_38 : decode cX6_payBack 38 = .ok (.iaload, 1) := by decide +kernel
theorem dX6_payBack_39 : decode cX6_payBack 39 = .ok (.iload_n 2, 1) := by decide +kernel
theorem dX6_payBack_40 : decode cX6_payBack 40 = .ok (.iadd, 1) := by decide +kernel
theorem dX6_payBack_41 : decode cX6_payBack 41 = .ok (.iastore, 1) := by decide +kernel
theorem dX6_payBack_42 : decode cX6_payBack 42 = .ok (.aload_n 0, 1) := by decide +kernel
theorem dX6_payBack_43 : decode cX6_payBack 43 = .ok (.bipush 8, 2) := by decide +kernel
theorem dX6_payBack_45 : decode cX6_payBack 45 = .ok (.dup2, 1) := by decide +kernel
theorem dX6_payBack_46 : decode cX6_payBack 46 = .ok (.iaload, 1) := by decide +kernel
theorem dX6_payBack_47 : decode cX6_payBack 47 = .ok (.iload_n 2, 1) := by decide +kernel
theorem dX6_payBack_48 : decode cX6_payBack 48 = .ok (.aload_n 0, 1) := by decide +kernel
theorem dX6_payBack_49 : decode cX6_payBack 49 = .ok (.bipush 15, 2) := by decide +kernel
theorem dX6_payBack_51 : decode cX6_payBack 51 = .ok (.iaload, 1) := by decide +kernel
theorem dX6_payBack_52 : decode cX6_payBack 52 = .ok (.imul, 1) := by decide +kernel
theorem dX6_payBack_53 : decode cX6_payBack 53 = .ok (.iadd, 1) := by decide +kernel
theorem dX6_payBack_54 : decode cX6_payBack 54 = .ok (.iastore, 1) := by decide +kernel
theorem dX6_payBack_55 : decode cX6_payBack 55 = .ok (.return_, 1) := by decide +kernel
theorem dX6_day_0 : decode cX6_day 0 = .ok (.aload_n 0, 1) := by decide +kernel
theorem dX6_day_1 : decode cX6_day 1 = .ok (.iconst 1, 1) := by decide +kernel
theorem dX6_day_2 : decode cX6_day 2 = .ok (.iaload, 1) := by decide +kernel
theorem dX6_day_3 : decode cX6_day 3 = .ok (.istore_n 1, 1) := by decide +kernel
theorem dX6_day_4 : decode cX6_day 4 = .ok (.aload_n 0, 1) := by decide +kernel
theorem dX6_day_5 : decode cX6_day 5 = .ok (.iload_n 1, 1) := by decide +kernel
theorem dX6_day_6 : decode cX6_day 6 = .ok (.invokestatic 75, 3) := by decide +kernel
theorem dX6_day_9 : decode cX6_day 9 = .ok (.istore_n 2, 1) := by decide +kernel
theorem dX6_day_10 : decode cX6_day 10 = .ok (.aload_n 0, 1) := by decide +kernel
theorem dX6_day_11 : decode cX6_day 11 = .ok (.iconst 2, 1) := by decide +kernel
theorem dX6_day_12 : decode cX6_day 12 = .ok (.dup2, 1) := by decide +kernel
theorem dX6_day_13 : decode cX6_day 13 = .ok (.iaload, 1) := by decide +kernel
theorem dX6_day_14 : decode cX6_day 14 = .ok (.iload_n 2, 1) := by decide +kernel
theorem dX6_day_15 : decode cX6_day 15 = .ok (.iadd, 1) := by decide +kernel
theorem dX6_day_16 : decode cX6_day 16 = .ok (.iastore, 1) := by decide +kernel
theorem dX6_day_17 : decode cX6_day 17 = .ok (.iconst 0, 1) := by decide +kernel
theorem dX6_day_18 : decode cX6_day 18 = .ok (.istore_n 3, 1) := by decide +kernel
theorem dX6_day_19 : decode cX6_day 19 = .ok (.iload_n 3, 1) := by decide +kernel
theorem dX6_day_20 : decode cX6_day 20 = .ok (.aload_n 0, 1) := by decide +kernel
theorem dX6_day_21 : decode cX6_day 21 = .ok (.iconst 0, 1) := by decide +kernel
theorem dX6_day_22 : decode cX6_day 22 = .ok (.iaload, 1) := by decide +kernel
theorem dX6_day_23 : decode cX6_day 23 = .ok (.if_icmp .ge 21, 3) := by decide +kernel
theorem dX6_day_26 : decode cX6_day 26 = .ok (.aload_n 0, 1) := by decide +kernel
theorem dX6_day_27 : decode cX6_day 27 = .ok (.aload_n 0, 1) := by decide +kernel
theorem dX6_day_28 : decode cX6_day 28 = .ok (.iload_n 3, 1) := by decide +kernel
theorem dX6_day_29 : decode cX6_day 29 = .ok (.invokestatic 78, 3) := by decide +kernel
theorem dX6_day_32 : decode cX6_day 32 = .ok (.iload_n 1, 1) := by decide +kernel
theorem dX6_day_33 : decode cX6_day 33 = .ok (.iload_n 2, 1) := by decide +kernel
theorem dX6_day_34 : decode cX6_day 34 = .ok (.invokestatic 81, 3) := by decide +kernel
theorem dX6_day_37 : decode cX6_day 37 = .ok (.istore_n 2, 1) := by decide +kernel
theorem dX6_day_38 : decode cX6_day 38 = .ok (.iinc 3 1, 3) := by decide +kernel
theorem dX6_day_41 : decode cX6_day 41 = .ok (.goto (-22), 3) := by decide +kernel
theorem dX6_day_44 : decode cX6_day 44 = .ok (.iconst 0, 1) := by decide +kernel
theorem dX6_day_45 : decode cX6_day 45 = .ok (.istore_n 3, 1) := by decide +kernel
theorem dX6_day_46 : decode cX6_day 46 = .ok (.iload_n 3, 1) := by decide +kernel
theorem dX6_day_47 : decode cX6_day 47 = .ok (.aload_n 0, 1) := by decide +kernel
theorem dX6_day_48 : decode cX6_day 48 = .ok (.iconst 0, 1) := by decide +kernel
theorem dX6_day_49 : decode cX6_day 49 = .ok (.iaload, 1) := by decide +kernel
theorem dX6_day_50 : decode cX6_day 50 = .ok (.if_icmp .ge 21, 3) := by decide +kernel
theorem dX6_day_53 : decode cX6_day 53 = .ok (.aload_n 0, 1) := by decide +kernel
theorem dX6_day_54 : decode cX6_day 54 = .ok (.aload_n 0, 1) := by decide +kernel
theorem dX6_day_55 : decode cX6_day 55 = .ok (.iload_n 3, 1) := by decide +kernel
theorem dX6_day_56 : decode cX6_day 56 = .ok (.invokestatic 78, 3) := by decide +kernel
theorem dX6_day_59 : decode cX6_day 59 = .ok (.iload_n 1, 1) := by decide +kernel
theorem dX6_day_60 : decode cX6_day 60 = .ok (.iload_n 2, 1) := by decide +kernel
theorem dX6_day_61 : decode cX6_day 61 = .ok (.invokestatic 85, 3) := by decide +kernel
theorem dX6_day_64 : decode cX6_day 64 = .ok (.istore_n 2, 1) := by decide +kernel
theorem dX6_day_65 : decode cX6_day 65 = .ok (.iinc 3 1, 3) := by decide +kernel
theorem dX6_day_68 : decode cX6_day 68 = .ok (.goto (-22), 3) := by decide +kernel
theorem dX6_day_71 : decode cX6_day 71 = .ok (.aload_n 0, 1) := by decide +kernel
theorem dX6_day_72 : decode cX6_day 72 = .ok (.iconst 5, 1) := by decide +kernel
theorem dX6_day_73 : decode cX6_day 73 = .ok (.dup2, 1) := by decide +kernel
theorem dX6_day_74 : decode cX6_day 74 = .ok (.iaload, 1) := by decide +kernel
theorem dX6_day_75 : decode cX6_day 75 = .ok (.iload_n 2, 1) := by decide +kernel
theorem dX6_day_76 : decode cX6_day 76 = .ok (.iadd, 1) := by decide +kernel
theorem dX6_day_77 : decode cX6_day 77 = .ok (.iastore, 1) := by decide +kernel
theorem dX6_day_78 : decode cX6_day 78 = .ok (.iconst 0, 1) := by decide +kernel
theorem dX6_day_79 : decode cX6_day 79 = .ok (.istore_n 3, 1) := by decide +kernel
theorem dX6_day_80 : decode cX6_day 80 = .ok (.iload_n 3, 1) := by decide +kernel
theorem dX6_day_81 : decode cX6_day 81 = .ok (.aload_n 0, 1) := by decide +kernel
theorem dX6_day_82 : decode cX6_day 82 = .ok (.iconst 0, 1) := by decide +kernel
theorem dX6_day_83 : decode cX6_day 83 = .ok (.iaload, 1) := by decide +kernel
theorem dX6_day_84 : decode cX6_day 84 = .ok (.if_icmp .ge 14, 3) := by decide +kernel
theorem dX6_day_87 : decode cX6_day 87 = .ok (.aload_n 0, 1) := by decide +kernel
theorem dX6_day_88 : decode cX6_day 88 = .ok (.iload_n 3, 1) := by decide +kernel
theorem dX6_day_89 : decode cX6_day 89 = .ok (.invokestatic 88, 3) := by decide +kernel
theorem dX6_day_92 : decode cX6_day 92 = .ok (.iinc 3 1, 3) := by decide +kernel
theorem dX6_day_95 : decode cX6_day 95 = .ok (.goto (-15), 3) := by decide +kernel
theorem dX6_day_98 : decode cX6_day 98 = .ok (.aload_n 0, 1) := by decide +kernel
theorem dX6_day_99 : decode cX6_day 99 = .ok (.iconst 1, 1) := by decide +kernel
theorem dX6_day_100 : decode cX6_day 100 = .ok (.dup2, 1) := by decide +kernel
theorem dX6_day_101 : decode cX6_day 101 = .ok (.iaload, 1) := by decide +kernel
theorem dX6_day_102 : decode cX6_day 102 = .ok (.iconst 1, 1) := by decide +kernel
theorem dX6_day_103 : decode cX6_day 103 = .ok (.iadd, 1) := by decide +kernel
theorem dX6_day_104 : decode cX6_day 104 = .ok (.iastore, 1) := by decide +kernel
theorem dX6_day_105 : decode cX6_day 105 = .ok (.return_, 1) := by decide +kernel
theorem dX6_daysOn_0 : decode cX6_daysOn 0 = .ok (.aload_n 0, 1) := by decide +kernel
theorem dX6_daysOn_1 : decode cX6_daysOn 1 = .ok (.iconst 3, 1) := by decide +kernel
theorem dX6_daysOn_2 : decode cX6_daysOn 2 = .ok (.iaload, 1) := by decide +kernel
theorem dX6_daysOn_3 : decode cX6_daysOn 3 = .ok (.aload_n 0, 1) := by decide +kernel
theorem dX6_daysOn_4 : decode cX6_daysOn 4 = .ok (.iconst 4, 1) := by decide +kernel
theorem dX6_daysOn_5 : decode cX6_daysOn 5 = .ok (.iaload, 1) := by decide +kernel
theorem dX6_daysOn_6 : decode cX6_daysOn 6 = .ok (.iadd, 1) := by decide +kernel
theorem dX6_daysOn_7 : decode cX6_daysOn 7 = .ok (.istore_n 2, 1) := by decide +kernel
theorem dX6_daysOn_8 : decode cX6_daysOn 8 = .ok (.iconst 0, 1) := by decide +kernel
theorem dX6_daysOn_9 : decode cX6_daysOn 9 = .ok (.istore_n 3, 1) := by decide +kernel
theorem dX6_daysOn_10 : decode cX6_daysOn 10 = .ok (.iload_n 3, 1) := by decide +kernel
theorem dX6_daysOn_11 : decode cX6_daysOn 11 = .ok (.iload_n 1, 1) := by decide +kernel
theorem dX6_daysOn_12 : decode cX6_daysOn 12 = .ok (.if_icmp .ge 13, 3) := by decide +kernel
theorem dX6_daysOn_15 : decode cX6_daysOn 15 = .ok (.aload_n 0, 1) := by decide +kernel
theorem dX6_daysOn_16 : decode cX6_daysOn 16 = .ok (.invokestatic 92, 3) := by decide +kernel
theorem dX6_daysOn_19 : decode cX6_daysOn 19 = .ok (.iinc 3 1, 3) := by decide +kernel
theorem dX6_daysOn_22 : decode cX6_daysOn 22 = .ok (.goto (-12), 3) := by decide +kernel
theorem dX6_daysOn_25 : decode cX6_daysOn 25 = .ok (.aload_n 0, 1) := by decide +kernel
theorem dX6_daysOn_26 : decode cX6_daysOn 26 = .ok (.iconst 3, 1) := by decide +kernel
theorem dX6_daysOn_27 : decode cX6_daysOn 27 = .ok (.iaload, 1) := by decide +kernel
theorem dX6_daysOn_28 : decode cX6_daysOn 28 = .ok (.aload_n 0, 1) := by decide +kernel
theorem dX6_daysOn_29 : decode cX6_daysOn 29 = .ok (.iconst 4, 1) := by decide +kernel
theorem dX6_daysOn_30 : decode cX6_daysOn 30 = .ok (.iaload, 1) := by decide +kernel
theorem dX6_daysOn_31 : decode cX6_daysOn 31 = .ok (.iadd, 1) := by decide +kernel
theorem dX6_daysOn_32 : decode cX6_daysOn 32 = .ok (.iload_n 2, 1) := by decide +kernel
theorem dX6_daysOn_33 : decode cX6_daysOn 33 = .ok (.isub, 1) := by decide +kernel
theorem dX6_daysOn_34 : decode cX6_daysOn 34 = .ok (.ireturn, 1) := by decide +kernel
theorem dX6_reason_0 : decode cX6_reason 0 = .ok (.aload_n 0, 1) := by decide +kernel
theorem dX6_reason_1 : decode cX6_reason 1 = .ok (.iconst 1, 1) := by decide +kernel
theorem dX6_reason_2 : decode cX6_reason 2 = .ok (.iaload, 1) := by decide +kernel
theorem dX6_reason_3 : decode cX6_reason 3 = .ok (.istore_n 2, 1) := by decide +kernel
theorem dX6_reason_4 : decode cX6_reason 4 = .ok (.aload_n 0, 1) := by decide +kernel
theorem dX6_reason_5 : decode cX6_reason 5 = .ok (.iload_n 1, 1) := by decide +kernel
theorem dX6_reason_6 : decode cX6_reason 6 = .ok (.iconst 1, 1) := by decide +kernel
theorem dX6_reason_7 : decode cX6_reason 7 = .ok (.iload_n 2, 1) := by decide +kernel
theorem dX6_reason_8 : decode cX6_reason 8 = .ok (.bipush 7, 2) := by decide +kernel
theorem dX6_reason_10 : decode cX6_reason 10 = .ok (.irem, 1) := by decide +kernel
theorem dX6_reason_11 : decode cX6_reason 11 = .ok (.iadd, 1) := by decide +kernel
theorem dX6_reason_12 : decode cX6_reason 12 = .ok (.invokestatic 53, 3) := by decide +kernel
theorem dX6_reason_15 : decode cX6_reason 15 = .ok (.ifCond .ne 5, 3) := by decide +kernel
theorem dX6_reason_18 : decode cX6_reason 18 = .ok (.iconst 1, 1) := by decide +kernel
theorem dX6_reason_19 : decode cX6_reason 19 = .ok (.ireturn, 1) := by decide +kernel
theorem dX6_reason_20 : decode cX6_reason 20 = .ok (.aload_n 0, 1) := by decide +kernel
theorem dX6_reason_21 : decode cX6_reason 21 = .ok (.iload_n 1, 1) := by decide +kernel
theorem dX6_reason_22 : decode cX6_reason 22 = .ok (.iload_n 2, 1) := by decide +kernel
theorem dX6_reason_23 : decode cX6_reason 23 = .ok (.invokestatic 57, 3) := by decide +kernel
theorem dX6_reason_26 : decode cX6_reason 26 = .ok (.ifCond .eq 5, 3) := by decide +kernel
theorem dX6_reason_29 : decode cX6_reason 29 = .ok (.iconst 2, 1) := by decide +kernel
theorem dX6_reason_30 : decode cX6_reason 30 = .ok (.ireturn, 1) := by decide +kernel
theorem dX6_reason_31 : decode cX6_reason 31 = .ok (.aload_n 0, 1) := by decide +kernel
theorem dX6_reason_32 : decode cX6_reason 32 = .ok (.iload_n 1, 1) := by decide +kernel
theorem dX6_reason_33 : decode cX6_reason 33 = .ok (.iload_n 2, 1) := by decide +kernel
theorem dX6_reason_34 : decode cX6_reason 34 = .ok (.invokestatic 68, 3) := by decide +kernel
theorem dX6_reason_37 : decode cX6_reason 37 = .ok (.ifCond .ne 5, 3) := by decide +kernel
theorem dX6_reason_40 : decode cX6_reason 40 = .ok (.iconst 3, 1) := by decide +kernel
theorem dX6_reason_41 : decode cX6_reason 41 = .ok (.ireturn, 1) := by decide +kernel
theorem dX6_reason_42 : decode cX6_reason 42 = .ok (.aload_n 0, 1) := by decide +kernel
theorem dX6_reason_43 : decode cX6_reason 43 = .ok (.iload_n 2, 1) := by decide +kernel
theorem dX6_reason_44 : decode cX6_reason 44 = .ok (.invokestatic 75, 3) := by decide +kernel
theorem dX6_reason_47 : decode cX6_reason 47 = .ok (.istore_n 3, 1) := by decide +kernel
theorem dX6_reason_48 : decode cX6_reason 48 = .ok (.iconst 0, 1) := by decide +kernel
theorem dX6_reason_49 : decode cX6_reason 49 = .ok (.istore 4, 2) := by decide +kernel
theorem dX6_reason_51 : decode cX6_reason 51 = .ok (.aload_n 0, 1) := by decide +kernel
theorem dX6_reason_52 : decode cX6_reason 52 = .ok (.iload 4, 2) := by decide +kernel
theorem dX6_reason_54 : decode cX6_reason 54 = .ok (.invokestatic 78, 3) := by decide +kernel
theorem dX6_reason_57 : decode cX6_reason 57 = .ok (.iload_n 1, 1) := by decide +kernel
theorem dX6_reason_58 : decode cX6_reason 58 = .ok (.if_icmp .eq 55, 3) := by decide +kernel
theorem dX6_reason_61 : decode cX6_reason 61 = .ok (.aload_n 0, 1) := by decide +kernel
theorem dX6_reason_62 : decode cX6_reason 62 = .ok (.iload 4, 2) := by decide +kernel
theorem dX6_reason_64 : decode cX6_reason 64 = .ok (.invokestatic 78, 3) := by decide +kernel
theorem dX6_reason_67 : decode cX6_reason 67 = .ok (.istore 5, 2) := by decide +kernel
theorem dX6_reason_69 : decode cX6_reason 69 = .ok (.aload_n 0, 1) := by decide +kernel
theorem dX6_reason_70 : decode cX6_reason 70 = .ok (.iload 5, 2) := by decide +kernel
theorem dX6_reason_72 : decode cX6_reason 72 = .ok (.iload_n 2, 1) := by decide +kernel
theorem dX6_reason_73 : decode cX6_reason 73 = .ok (.invokestatic 68, 3) := by decide +kernel
theorem dX6_reason_76 : decode cX6_reason 76 = .ok (.ifCond .eq 13, 3) := by decide +kernel
theorem dX6_reason_79 : decode cX6_reason 79 = .ok (.aload_n 0, 1) := by decide +kernel
theorem dX6_reason_80 : decode cX6_reason 80 = .ok (.iload 5, 2) := by decide +kernel
theorem dX6_reason_82 : decode cX6_reason 82 = .ok (.iload_n 2, 1) := by decide +kernel
theorem dX6_reason_83 : decode cX6_reason 83 = .ok (.invokestatic 61, 3) := by decide +kernel
theorem dX6_reason_86 : decode cX6_reason 86 = .ok (.goto 4, 3) := by decide +kernel
theorem dX6_reason_89 : decode cX6_reason 89 = .ok (.iconst 0, 1) := by decide +kernel
theorem dX6_reason_90 : decode cX6_reason 90 = .ok (.istore 6, 2) := by decide +kernel
theorem dX6_reason_92 : decode cX6_reason 92 = .ok (.iload_n 3, 1) := by decide +kernel
theorem dX6_reason_93 : decode cX6_reason 93 = .ok (.iload 6, 2) := by decide +kernel
theorem dX6_reason_95 : decode cX6_reason 95 = .ok (.iload_n 3, 1) := by decide +kernel
theorem dX6_reason_96 : decode cX6_reason 96 = .ok (.if_icmp .ge 8, 3) := by decide +kernel
theorem dX6_reason_99 : decode cX6_reason 99 = .ok (.iload 6, 2) := by decide +kernel
theorem dX6_reason_101 : decode cX6_reason 101 = .ok (.goto 4, 3) := by decide +kernel
theorem dX6_reason_104 : decode cX6_reason 104 = .ok (.iload_n 3, 1) := by decide +kernel
theorem dX6_reason_105 : decode cX6_reason 105 = .ok (.isub, 1) := by decide +kernel
theorem dX6_reason_106 : decode cX6_reason 106 = .ok (.istore_n 3, 1) := by decide +kernel
theorem dX6_reason_107 : decode cX6_reason 107 = .ok (.iinc 4 1, 3) := by decide +kernel
theorem dX6_reason_110 : decode cX6_reason 110 = .ok (.goto (-59), 3) := by decide +kernel
theorem dX6_reason_113 : decode cX6_reason 113 = .ok (.iload_n 3, 1) := by decide +kernel
theorem dX6_reason_114 : decode cX6_reason 114 = .ok (.ifCond .ne 7, 3) := by decide +kernel
theorem dX6_reason_117 : decode cX6_reason 117 = .ok (.iconst 4, 1) := by decide +kernel
theorem dX6_reason_118 : decode cX6_reason 118 = .ok (.goto 18, 3) := by decide +kernel
theorem dX6_reason_121 : decode cX6_reason 121 = .ok (.iload_n 3, 1) := by decide +kernel
theorem dX6_reason_122 : decode cX6_reason 122 = .ok (.aload_n 0, 1) := by decide +kernel
theorem dX6_reason_123 : decode cX6_reason 123 = .ok (.iload_n 1, 1) := by decide +kernel
theorem dX6_reason_124 : decode cX6_reason 124 = .ok (.iload_n 2, 1) := by decide +kernel
theorem dX6_reason_125 : decode cX6_reason 125 = .ok (.invokestatic 61, 3) := by decide +kernel
theorem dX6_reason_128 : decode cX6_reason 128 = .ok (.if_icmp .ge 7, 3) := by decide +kernel
theorem dX6_reason_131 : decode cX6_reason 131 = .ok (.iconst 5, 1) := by decide +kernel
theorem dX6_reason_132 : decode cX6_reason 132 = .ok (.goto 4, 3) := by decide +kernel
theorem dX6_reason_135 : decode cX6_reason 135 = .ok (.iconst 0, 1) := by decide +kernel
theorem dX6_reason_136 : decode cX6_reason 136 = .ok (.ireturn, 1) := by decide +kernel
theorem dX6_customerOn_0 : decode cX6_customerOn 0 = .ok (.aload_n 0, 1) := by decide +kernel
theorem dX6_customerOn_1 : decode cX6_customerOn 1 = .ok (.iconst 0, 1) := by decide +kernel
theorem dX6_customerOn_2 : decode cX6_customerOn 2 = .ok (.iaload, 1) := by decide +kernel
theorem dX6_customerOn_3 : decode cX6_customerOn 3 = .ok (.istore_n 3, 1) := by decide +kernel
theorem dX6_customerOn_4 : decode cX6_customerOn 4 = .ok (.iconst 0, 1) := by decide +kernel
theorem dX6_customerOn_5 : decode cX6_customerOn 5 = .ok (.istore 4, 2) := by decide +kernel
theorem dX6_customerOn_7 : decode cX6_customerOn 7 = .ok (.iload 4, 2) := by decide +kernel
theorem dX6_customerOn_9 : decode cX6_customerOn 9 = .ok (.bipush 21, 2) := by decide +kernel
theorem dX6_customerOn_11 : decode cX6_customerOn 11 = .ok (.if_icmp .ge 22, 3) := by decide +kernel
theorem dX6_customerOn_14 : decode cX6_customerOn 14 = .ok (.aload_n 0, 1) := by decide +kernel
theorem dX6_customerOn_15 : decode cX6_customerOn 15 = .ok (.bipush 48, 2) := by decide +kernel
theorem dX6_customerOn_17 : decode cX6_customerOn 17 = .ok (.bipush 21, 2) := by decide +kernel
theorem dX6_customerOn_19 : decode cX6_customerOn 19 = .ok (.iload_n 3, 1) := by decide +kernel
theorem dX6_customerOn_20 : decode cX6_customerOn 20 = .ok (.imul, 1) := by decide +kernel
theorem dX6_customerOn_21 : decode cX6_customerOn 21 = .ok (.iadd, 1) := by decide +kernel
theorem dX6_customerOn_22 : decode cX6_customerOn 22 = .ok (.iload 4, 2) := by decide +kernel
theorem dX6_customerOn_24 : decode cX6_customerOn 24 = .ok (.iadd, 1) := by decide +kernel
theorem dX6_customerOn_25 : decode cX6_customerOn 25 = .ok (.iconst 0, 1) := by decide +kernel
theorem dX6_customerOn_26 : decode cX6_customerOn 26 = .ok (.iastore, 1) := by decide +kernel
theorem dX6_customerOn_27 : decode cX6_customerOn 27 = .ok (.iinc 4 1, 3) := by decide +kernel
theorem dX6_customerOn_30 : decode cX6_customerOn 30 = .ok (.goto (-23), 3) := by decide +kernel
theorem dX6_customerOn_33 : decode cX6_customerOn 33 = .ok (.aload_n 0, 1) := by decide +kernel
theorem dX6_customerOn_34 : decode cX6_customerOn 34 = .ok (.iload_n 3, 1) := by decide +kernel
theorem dX6_customerOn_35 : decode cX6_customerOn 35 = .ok (.iconst 0, 1) := by decide +kernel
theorem dX6_customerOn_36 : decode cX6_customerOn 36 = .ok (.iload_n 1, 1) := by decide +kernel
theorem dX6_customerOn_37 : decode cX6_customerOn 37 = .ok (.invokestatic 71, 3) := by decide +kernel
theorem dX6_customerOn_40 : decode cX6_customerOn 40 = .ok (.iload_n 2, 1) := by decide +kernel
theorem dX6_customerOn_41 : decode cX6_customerOn 41 = .ok (.istore 4, 2) := by decide +kernel
theorem dX6_customerOn_43 : decode cX6_customerOn 43 = .ok (.bipush 6, 2) := by decide +kernel
theorem dX6_customerOn_45 : decode cX6_customerOn 45 = .ok (.istore 5, 2) := by decide +kernel
theorem dX6_customerOn_47 : decode cX6_customerOn 47 = .ok (.iload 5, 2) := by decide +kernel
theorem dX6_customerOn_49 : decode cX6_customerOn 49 = .ok (.ifCond .lt 30, 3) := by decide +kernel
theorem dX6_customerOn_52 : decode cX6_customerOn 52 = .ok (.aload_n 0, 1) := by decide +kernel
theorem dX6_customerOn_53 : decode cX6_customerOn 53 = .ok (.iload_n 3, 1) := by decide +kernel
theorem dX6_customerOn_54 : decode cX6_customerOn 54 = .ok (.iconst 1, 1) := by decide +kernel
theorem dX6_customerOn_55 : decode cX6_customerOn 55 = .ok (.iload 5, 2) := by decide +kernel
theorem dX6_customerOn_57 : decode cX6_customerOn 57 = .ok (.iadd, 1) := by decide +kernel
theorem dX6_customerOn_58 : decode cX6_customerOn 58 = .ok (.iload 4, 2) := by decide +kernel
theorem dX6_customerOn_60 : decode cX6_customerOn 60 = .ok (.bipush 10, 2) := by decide +kernel
theorem dX6_customerOn_62 : decode cX6_customerOn 62 = .ok (.irem, 1) := by decide +kernel
theorem dX6_customerOn_63 : decode cX6_customerOn 63 = .ok (.invokestatic 71, 3) := by decide +kernel
theorem dX6_customerOn_66 : decode cX6_customerOn 66 = .ok (.iload 4, 2) := by decide +kernel
theorem dX6_customerOn_68 : decode cX6_customerOn 68 = .ok (.bipush 10, 2) := by decide +kernel
theorem dX6_customerOn_70 : decode cX6_customerOn 70 = .ok (.idiv, 1) := by decide +kernel
theorem dX6_customerOn_71 : decode cX6_customerOn 71 = .ok (.istore 4, 2) := by decide +kernel
theorem dX6_customerOn_73 : decode cX6_customerOn 73 = .ok (.iinc 5 (-1), 3) := by decide +kernel
theorem dX6_customerOn_76 : decode cX6_customerOn 76 = .ok (.goto (-29), 3) := by decide +kernel
theorem dX6_customerOn_79 : decode cX6_customerOn 79 = .ok (.aload_n 0, 1) := by decide +kernel
theorem dX6_customerOn_80 : decode cX6_customerOn 80 = .ok (.iconst 0, 1) := by decide +kernel
theorem dX6_customerOn_81 : decode cX6_customerOn 81 = .ok (.dup2, 1) := by decide +kernel
theorem dX6_customerOn_82 : decode cX6_customerOn 82 = .ok (.iaload, 1) := by decide +kernel
theorem dX6_customerOn_83 : decode cX6_customerOn 83 = .ok (.iconst 1, 1) := by decide +kernel
theorem dX6_customerOn_84 : decode cX6_customerOn 84 = .ok (.iadd, 1) := by decide +kernel
theorem dX6_customerOn_85 : decode cX6_customerOn 85 = .ok (.iastore, 1) := by decide +kernel
theorem dX6_customerOn_86 : decode cX6_customerOn 86 = .ok (.iload_n 3, 1) := by decide +kernel
theorem dX6_customerOn_87 : decode cX6_customerOn 87 = .ok (.ireturn, 1) := by decide +kernel
theorem dX6_put_0 : decode cX6_put 0 = .ok (.aload_n 0, 1) := by decide +kernel
theorem dX6_put_1 : decode cX6_put 1 = .ok (.iload_n 1, 1) := by decide +kernel
theorem dX6_put_2 : decode cX6_put 2 = .ok (.iaload, 1) := by decide +kernel
theorem dX6_put_3 : decode cX6_put 3 = .ok (.istore_n 3, 1) := by decide +kernel
theorem dX6_put_4 : decode cX6_put 4 = .ok (.aload_n 0, 1) := by decide +kernel
theorem dX6_put_5 : decode cX6_put 5 = .ok (.iload_n 1, 1) := by decide +kernel
theorem dX6_put_6 : decode cX6_put 6 = .ok (.iload_n 2, 1) := by decide +kernel
theorem dX6_put_7 : decode cX6_put 7 = .ok (.iastore, 1) := by decide +kernel
theorem dX6_put_8 : decode cX6_put 8 = .ok (.iload_n 3, 1) := by decide +kernel
theorem dX6_put_9 : decode cX6_put 9 = .ok (.ireturn, 1) := by decide +kernel
theorem dX6_changeOn_0 : decode cX6_changeOn 0 = .ok (.aload_n 0, 1) := by decide +kernel
theorem dX6_changeOn_1 : decode cX6_changeOn 1 = .ok (.bipush 48, 2) := by decide +kernel
theorem dX6_changeOn_3 : decode cX6_changeOn 3 = .ok (.bipush 21, 2) := by decide +kernel
theorem dX6_changeOn_5 : decode cX6_changeOn 5 = .ok (.iload_n 1, 1) := by decide +kernel
theorem dX6_changeOn_6 : decode cX6_changeOn 6 = .ok (.imul, 1) := by decide +kernel
theorem dX6_changeOn_7 : decode cX6_changeOn 7 = .ok (.iadd, 1) := by decide +kernel
theorem dX6_changeOn_8 : decode cX6_changeOn 8 = .ok (.iconst 1, 1) := by decide +kernel
theorem dX6_changeOn_9 : decode cX6_changeOn 9 = .ok (.iadd, 1) := by decide +kernel
theorem dX6_changeOn_10 : decode cX6_changeOn 10 = .ok (.iload_n 2, 1) := by decide +kernel
theorem dX6_changeOn_11 : decode cX6_changeOn 11 = .ok (.iadd, 1) := by decide +kernel
theorem dX6_changeOn_12 : decode cX6_changeOn 12 = .ok (.iload_n 3, 1) := by decide +kernel
theorem dX6_changeOn_13 : decode cX6_changeOn 13 = .ok (.invokestatic 95, 3) := by decide +kernel
theorem dX6_changeOn_16 : decode cX6_changeOn 16 = .ok (.ireturn, 1) := by decide +kernel
theorem dX6_isSpan_0 : decode cX6_isSpan 0 = .ok (.iload_n 0, 1) := by decide +kernel
theorem dX6_isSpan_1 : decode cX6_isSpan 1 = .ok (.i2l, 1) := by decide +kernel
theorem dX6_isSpan_2 : decode cX6_isSpan 2 = .ok (.lconst 0, 1) := by decide +kernel
theorem dX6_isSpan_3 : decode cX6_isSpan 3 = .ok (.ldc2_w 98, 3) := by decide +kernel
theorem dX6_isSpan_6 : decode cX6_isSpan 6 = .ok (.invokestatic 37, 3) := by decide +kernel
theorem dX6_isSpan_9 : decode cX6_isSpan 9 = .ok (.ifCond .eq 20, 3) := by decide +kernel
theorem dX6_isSpan_12 : decode cX6_isSpan 12 = .ok (.iload_n 1, 1) := by decide +kernel
theorem dX6_isSpan_13 : decode cX6_isSpan 13 = .ok (.i2l, 1) := by decide +kernel
theorem dX6_isSpan_14 : decode cX6_isSpan 14 = .ok (.iload_n 0, 1) := by decide +kernel
theorem dX6_isSpan_15 : decode cX6_isSpan 15 = .ok (.i2l, 1) := by decide +kernel
theorem dX6_isSpan_16 : decode cX6_isSpan 16 = .ok (.ldc2_w 98, 3) := by decide +kernel
theorem dX6_isSpan_19 : decode cX6_isSpan 19 = .ok (.invokestatic 37, 3) := by decide +kernel
theorem dX6_isSpan_22 : decode cX6_isSpan 22 = .ok (.ifCond .eq 7, 3) := by decide +kernel
theorem dX6_isSpan_25 : decode cX6_isSpan 25 = .ok (.iconst 1, 1) := by decide +kernel
theorem dX6_isSpan_26 : decode cX6_isSpan 26 = .ok (.goto 4, 3) := by decide +kernel
theorem dX6_isSpan_29 : decode cX6_isSpan 29 = .ok (.iconst 0, 1) := by decide +kernel
theorem dX6_isSpan_30 : decode cX6_isSpan 30 = .ok (.ireturn, 1) := by decide +kernel
theorem dX6_holidayOn_0 : decode cX6_holidayOn 0 = .ok (.bipush 48, 2) := by decide +kernel
theorem dX6_holidayOn_2 : decode cX6_holidayOn 2 = .ok (.bipush 21, 2) := by decide +kernel
theorem dX6_holidayOn_4 : decode cX6_holidayOn 4 = .ok (.iload_n 1, 1) := by decide +kernel
theorem dX6_holidayOn_5 : decode cX6_holidayOn 5 = .ok (.imul, 1) := by decide +kernel
theorem dX6_holidayOn_6 : decode cX6_holidayOn 6 = .ok (.iadd, 1) := by decide +kernel
theorem dX6_holidayOn_7 : decode cX6_holidayOn 7 = .ok (.bipush 15, 2) := by decide +kernel
theorem dX6_holidayOn_9 : decode cX6_holidayOn 9 = .ok (.iadd, 1) := by decide +kernel
theorem dX6_holidayOn_10 : decode cX6_holidayOn 10 = .ok (.iconst 2, 1) := by decide +kernel
theorem dX6_holidayOn_11 : decode cX6_holidayOn 11 = .ok (.aload_n 0, 1) := by decide +kernel
theorem dX6_holidayOn_12 : decode cX6_holidayOn 12 = .ok (.iload_n 1, 1) := by decide +kernel
theorem dX6_holidayOn_13 : decode cX6_holidayOn 13 = .ok (.bipush 14, 2) := by decide +kernel
theorem dX6_holidayOn_15 : decode cX6_holidayOn 15 = .ok (.invokestatic 53, 3) := by decide +kernel
theorem dX6_holidayOn_18 : decode cX6_holidayOn 18 = .ok (.imul, 1) := by decide +kernel
theorem dX6_holidayOn_19 : decode cX6_holidayOn 19 = .ok (.iadd, 1) := by decide +kernel
theorem dX6_holidayOn_20 : decode cX6_holidayOn 20 = .ok (.istore 4, 2) := by decide +kernel
theorem dX6_holidayOn_22 : decode cX6_holidayOn 22 = .ok (.aload_n 0, 1) := by decide +kernel
theorem dX6_holidayOn_23 : decode cX6_holidayOn 23 = .ok (.iload 4, 2) := by decide +kernel
theorem dX6_holidayOn_25 : decode cX6_holidayOn 25 = .ok (.iload_n 2, 1) := by decide +kernel
theorem dX6_holidayOn_26 : decode cX6_holidayOn 26 = .ok (.iastore, 1) := by decide +kernel
theorem dX6_holidayOn_27 : decode cX6_holidayOn 27 = .ok (.aload_n 0, 1) := by decide +kernel
theorem dX6_holidayOn_28 : decode cX6_holidayOn 28 = .ok (.iload 4, 2) := by decide +kernel
theorem dX6_holidayOn_30 : decode cX6_holidayOn 30 = .ok (.iconst 1, 1) := by decide +kernel
theorem dX6_holidayOn_31 : decode cX6_holidayOn 31 = .ok (.iadd, 1) := by decide +kernel
theorem dX6_holidayOn_32 : decode cX6_holidayOn 32 = .ok (.iload_n 3, 1) := by decide +kernel
theorem dX6_holidayOn_33 : decode cX6_holidayOn 33 = .ok (.iastore, 1) := by decide +kernel
theorem dX6_holidayOn_34 : decode cX6_holidayOn 34 = .ok (.aload_n 0, 1) := by decide +kernel
theorem dX6_holidayOn_35 : decode cX6_holidayOn 35 = .ok (.iload_n 1, 1) := by decide +kernel
theorem dX6_holidayOn_36 : decode cX6_holidayOn 36 = .ok (.bipush 14, 2) := by decide +kernel
theorem dX6_holidayOn_38 : decode cX6_holidayOn 38 = .ok (.iconst 1, 1) := by decide +kernel
theorem dX6_holidayOn_39 : decode cX6_holidayOn 39 = .ok (.invokestatic 71, 3) := by decide +kernel
theorem dX6_holidayOn_42 : decode cX6_holidayOn 42 = .ok (.aload_n 0, 1) := by decide +kernel
theorem dX6_holidayOn_43 : decode cX6_holidayOn 43 = .ok (.iload_n 1, 1) := by decide +kernel
theorem dX6_holidayOn_44 : decode cX6_holidayOn 44 = .ok (.bipush 14, 2) := by decide +kernel
theorem dX6_holidayOn_46 : decode cX6_holidayOn 46 = .ok (.invokestatic 53, 3) := by decide +kernel
theorem dX6_holidayOn_49 : decode cX6_holidayOn 49 = .ok (.ireturn, 1) := by decide +kernel
theorem dX6_dropOn_0 : decode cX6_dropOn 0 = .ok (.aload_n 0, 1) := by decide +kernel
theorem dX6_dropOn_1 : decode cX6_dropOn 1 = .ok (.iload_n 1, 1) := by decide +kernel
theorem dX6_dropOn_2 : decode cX6_dropOn 2 = .ok (.bipush 14, 2) := by decide +kernel
theorem dX6_dropOn_4 : decode cX6_dropOn 4 = .ok (.iconst (-1), 1) := by decide +kernel
theorem dX6_dropOn_5 : decode cX6_dropOn 5 = .ok (.invokestatic 71, 3) := by decide +kernel
theorem dX6_dropOn_8 : decode cX6_dropOn 8 = .ok (.bipush 48, 2) := by decide +kernel
theorem dX6_dropOn_10 : decode cX6_dropOn 10 = .ok (.bipush 21, 2) := by decide +kernel
theorem dX6_dropOn_12 : decode cX6_dropOn 12 = .ok (.iload_n 1, 1) := by decide +kernel
theorem dX6_dropOn_13 : decode cX6_dropOn 13 = .ok (.imul, 1) := by decide +kernel
theorem dX6_dropOn_14 : decode cX6_dropOn 14 = .ok (.iadd, 1) := by decide +kernel
theorem dX6_dropOn_15 : decode cX6_dropOn 15 = .ok (.bipush 15, 2) := by decide +kernel
theorem dX6_dropOn_17 : decode cX6_dropOn 17 = .ok (.iadd, 1) := by decide +kernel
theorem dX6_dropOn_18 : decode cX6_dropOn 18 = .ok (.istore_n 3, 1) := by decide +kernel
theorem dX6_dropOn_19 : decode cX6_dropOn 19 = .ok (.iconst 2, 1) := by decide +kernel
theorem dX6_dropOn_20 : decode cX6_dropOn 20 = .ok (.iload_n 2, 1) := by decide +kernel
theorem dX6_dropOn_21 : decode cX6_dropOn 21 = .ok (.imul, 1) := by decide +kernel
theorem dX6_dropOn_22 : decode cX6_dropOn 22 = .ok (.istore 4, 2) := by decide +kernel
theorem dX6_dropOn_24 : decode cX6_dropOn 24 = .ok (.iload 4, 2) := by decide +kernel
theorem dX6_dropOn_26 : decode cX6_dropOn 26 = .ok (.iconst 2, 1) := by decide +kernel
theorem dX6_dropOn_27 : decode cX6_dropOn 27 = .ok (.aload_n 0, 1) := by decide +kernel
theorem dX6_dropOn_28 : decode cX6_dropOn 28 = .ok (.iload_n 1, 1) := by decide +kernel
theorem dX6_dropOn_29 : decode cX6_dropOn 29 = .ok (.bipush 14, 2) := by decide +kernel
theorem dX6_dropOn_31 : decode cX6_dropOn 31 = .ok (.invokestatic 53, 3) := by decide +kernel
theorem dX6_dropOn_34 : decode cX6_dropOn 34 = .ok (.imul, 1) := by decide +kernel
theorem dX6_dropOn_35 : decode cX6_dropOn 35 = .ok (.if_icmp .ge 23, 3) := by decide +kernel
theorem dX6_dropOn_38 : decode cX6_dropOn 38 = .ok (.aload_n 0, 1) := by decide +kernel
theorem dX6_dropOn_39 : decode cX6_dropOn 39 = .ok (.iload_n 3, 1) := by decide +kernel
theorem dX6_dropOn_40 : decode cX6_dropOn 40 = .ok (.iload 4, 2) := by decide +kernel
theorem dX6_dropOn_42 : decode cX6_dropOn 42 = .ok (.iadd, 1) := by decide +kernel
theorem dX6_dropOn_43 : decode cX6_dropOn 43 = .ok (.aload_n 0, 1) := by decide +kernel
theorem dX6_dropOn_44 : decode cX6_dropOn 44 = .ok (.iload_n 3, 1) := by decide +kernel
theorem dX6_dropOn_45 : decode cX6_dropOn 45 = .ok (.iload 4, 2) := by decide +kernel
theorem dX6_dropOn_47 : decode cX6_dropOn 47 = .ok (.iadd, 1) := by decide +kernel
theorem dX6_dropOn_48 : decode cX6_dropOn 48 = .ok (.iconst 2, 1) := by decide +kernel
theorem dX6_dropOn_49 : decode cX6_dropOn 49 = .ok (.iadd, 1) := by decide +kernel
theorem dX6_dropOn_50 : decode cX6_dropOn 50 = .ok (.iaload, 1) := by decide +kernel
theorem dX6_dropOn_51 : decode cX6_dropOn 51 = .ok (.iastore, 1) := by decide +kernel
theorem dX6_dropOn_52 : decode cX6_dropOn 52 = .ok (.iinc 4 1, 3) := by decide +kernel
theorem dX6_dropOn_55 : decode cX6_dropOn 55 = .ok (.goto (-31), 3) := by decide +kernel
theorem dX6_dropOn_58 : decode cX6_dropOn 58 = .ok (.aload_n 0, 1) := by decide +kernel
theorem dX6_dropOn_59 : decode cX6_dropOn 59 = .ok (.iload_n 1, 1) := by decide +kernel
theorem dX6_dropOn_60 : decode cX6_dropOn 60 = .ok (.bipush 14, 2) := by decide +kernel
theorem dX6_dropOn_62 : decode cX6_dropOn 62 = .ok (.invokestatic 53, 3) := by decide +kernel
theorem dX6_dropOn_65 : decode cX6_dropOn 65 = .ok (.ireturn, 1) := by decide +kernel
theorem dX6_closeOn_0 : decode cX6_closeOn 0 = .ok (.aload_n 0, 1) := by decide +kernel
theorem dX6_closeOn_1 : decode cX6_closeOn 1 = .ok (.bipush 20, 2) := by decide +kernel
theorem dX6_closeOn_3 : decode cX6_closeOn 3 = .ok (.bipush 7, 2) := by decide +kernel
theorem dX6_closeOn_5 : decode cX6_closeOn 5 = .ok (.iload_n 1, 1) := by decide +kernel
theorem dX6_closeOn_6 : decode cX6_closeOn 6 = .ok (.imul, 1) := by decide +kernel
theorem dX6_closeOn_7 : decode cX6_closeOn 7 = .ok (.iadd, 1) := by decide +kernel
theorem dX6_closeOn_8 : decode cX6_closeOn 8 = .ok (.iload_n 2, 1) := by decide +kernel
theorem dX6_closeOn_9 : decode cX6_closeOn 9 = .ok (.iadd, 1) := by decide +kernel
theorem dX6_closeOn_10 : decode cX6_closeOn 10 = .ok (.iload_n 3, 1) := by decide +kernel
theorem dX6_closeOn_11 : decode cX6_closeOn 11 = .ok (.ifCond .eq 7, 3) := by decide +kernel
theorem dX6_closeOn_14 : decode cX6_closeOn 14 = .ok (.iconst 1, 1) := by decide +kernel
theorem dX6_closeOn_15 : decode cX6_closeOn 15 = .ok (.goto 4, 3) := by decide +kernel
theorem dX6_closeOn_18 : decode cX6_closeOn 18 = .ok (.iconst 0, 1) := by decide +kernel
theorem dX6_closeOn_19 : decode cX6_closeOn 19 = .ok (.iastore, 1) := by decide +kernel
theorem dX6_closeOn_20 : decode cX6_closeOn 20 = .ok (.iconst 0, 1) := by decide +kernel
theorem dX6_closeOn_21 : decode cX6_closeOn 21 = .ok (.istore 4, 2) := by decide +kernel
theorem dX6_closeOn_23 : decode cX6_closeOn 23 = .ok (.iconst 0, 1) := by decide +kernel
theorem dX6_closeOn_24 : decode cX6_closeOn 24 = .ok (.istore 5, 2) := by decide +kernel
theorem dX6_closeOn_26 : decode cX6_closeOn 26 = .ok (.iload 5, 2) := by decide +kernel
theorem dX6_closeOn_28 : decode cX6_closeOn 28 = .ok (.bipush 7, 2) := by decide +kernel
theorem dX6_closeOn_30 : decode cX6_closeOn 30 = .ok (.if_icmp .ge 26, 3) := by decide +kernel
theorem dX6_closeOn_33 : decode cX6_closeOn 33 = .ok (.iload 4, 2) := by decide +kernel
theorem dX6_closeOn_35 : decode cX6_closeOn 35 = .ok (.aload_n 0, 1) := by decide +kernel
theorem dX6_closeOn_36 : decode cX6_closeOn 36 = .ok (.bipush 20, 2) := by decide +kernel
theorem dX6_closeOn_38 : decode cX6_closeOn 38 = .ok (.bipush 7, 2) := by decide +kernel
theorem dX6_closeOn_40 : decode cX6_closeOn 40 = .ok (.iload_n 1, 1) := by decide +kernel
theorem dX6_closeOn_41 : decode cX6_closeOn 41 = .ok (.imul, 1) := by decide +kernel
theorem dX6_closeOn_42 : decode cX6_closeOn 42 = .ok (.iadd, 1) := by decide +kernel
theorem dX6_closeOn_43 : decode cX6_closeOn 43 = .ok (.iload 5, 2) := by decide +kernel
theorem dX6_closeOn_45 : decode cX6_closeOn 45 = .ok (.iadd, 1) := by decide +kernel
theorem dX6_closeOn_46 : decode cX6_closeOn 46 = .ok (.iaload, 1) := by decide +kernel
theorem dX6_closeOn_47 : decode cX6_closeOn 47 = .ok (.iadd, 1) := by decide +kernel
theorem dX6_closeOn_48 : decode cX6_closeOn 48 = .ok (.istore 4, 2) := by decide +kernel
theorem dX6_closeOn_50 : decode cX6_closeOn 50 = .ok (.iinc 5 1, 3) := by decide +kernel
theorem dX6_closeOn_53 : decode cX6_closeOn 53 = .ok (.goto (-27), 3) := by decide +kernel
theorem dX6_closeOn_56 : decode cX6_closeOn 56 = .ok (.iload 4, 2) := by decide +kernel
theorem dX6_closeOn_58 : decode cX6_closeOn 58 = .ok (.ireturn, 1) := by decide +kernel
theorem dX6_swapOn_0 : decode cX6_swapOn 0 = .ok (.aload_n 0, 1) := by decide +kernel
theorem dX6_swapOn_1 : decode cX6_swapOn 1 = .ok (.iload_n 1, 1) := by decide +kernel
theorem dX6_swapOn_2 : decode cX6_swapOn 2 = .ok (.invokestatic 100, 3) := by decide +kernel
theorem dX6_swapOn_5 : decode cX6_swapOn 5 = .ok (.istore_n 3, 1) := by decide +kernel
theorem dX6_swapOn_6 : decode cX6_swapOn 6 = .ok (.aload_n 0, 1) := by decide +kernel
theorem dX6_swapOn_7 : decode cX6_swapOn 7 = .ok (.iload_n 2, 1) := by decide +kernel
theorem dX6_swapOn_8 : decode cX6_swapOn 8 = .ok (.invokestatic 100, 3) := by decide +kernel
theorem dX6_swapOn_11 : decode cX6_swapOn 11 = .ok (.istore 4, 2) := by decide +kernel
theorem dX6_swapOn_13 : decode cX6_swapOn 13 = .ok (.aload_n 0, 1) := by decide +kernel
theorem dX6_swapOn_14 : decode cX6_swapOn 14 = .ok (.bipush 16, 2) := by decide +kernel
theorem dX6_swapOn_16 : decode cX6_swapOn 16 = .ok (.iload_n 3, 1) := by decide +kernel
theorem dX6_swapOn_17 : decode cX6_swapOn 17 = .ok (.iadd, 1) := by decide +kernel
theorem dX6_swapOn_18 : decode cX6_swapOn 18 = .ok (.iload_n 2, 1) := by decide +kernel
theorem dX6_swapOn_19 : decode cX6_swapOn 19 = .ok (.iastore, 1) := by decide +kernel
theorem dX6_swapOn_20 : decode cX6_swapOn 20 = .ok (.aload_n 0, 1) := by decide +kernel
theorem dX6_swapOn_21 : decode cX6_swapOn 21 = .ok (.bipush 16, 2) := by decide +kernel
theorem dX6_swapOn_23 : decode cX6_swapOn 23 = .ok (.iload 4, 2) := by decide +kernel
theorem dX6_swapOn_25 : decode cX6_swapOn 25 = .ok (.iadd, 1) := by decide +kernel
theorem dX6_swapOn_26 : decode cX6_swapOn 26 = .ok (.iload_n 1, 1) := by decide +kernel
theorem dX6_swapOn_27 : decode cX6_swapOn 27 = .ok (.iastore, 1) := by decide +kernel
theorem dX6_swapOn_28 : decode cX6_swapOn 28 = .ok (.iload 4, 2) := by decide +kernel
theorem dX6_swapOn_30 : decode cX6_swapOn 30 = .ok (.ireturn, 1) := by decide +kernel
theorem dX6_append_0 : decode cX6_append 0 = .ok (.aload_n 0, 1) := by decide +kernel
theorem dX6_append_1 : decode cX6_append 1 = .ok (.iload_n 1, 1) := by decide +kernel
theorem dX6_append_2 : decode cX6_append 2 = .ok (.i2l, 1) := by decide +kernel
theorem dX6_append_3 : decode cX6_append 3 = .ok (.lconst 0, 1) := by decide +kernel
theorem dX6_append_4 : decode cX6_append 4 = .ok (.ldc2_w 103, 3) := by decide +kernel
theorem dX6_append_7 : decode cX6_append 7 = .ok (.invokestatic 37, 3) := by decide +kernel
theorem dX6_append_10 : decode cX6_append 10 = .ok (.ifCond .ne 7, 3) := by decide +kernel
theorem dX6_append_13 : decode cX6_append 13 = .ok (.iconst 1, 1) := by decide +kernel
theorem dX6_append_14 : decode cX6_append 14 = .ok (.goto 17, 3) := by decide +kernel
theorem dX6_append_17 : decode cX6_append 17 = .ok (.aload_n 0, 1) := by decide +kernel
theorem dX6_append_18 : decode cX6_append 18 = .ok (.getfield 105, 3) := by decide +kernel
theorem dX6_append_21 : decode cX6_append 21 = .ok (.bipush 120, 2) := by decide +kernel
theorem dX6_append_23 : decode cX6_append 23 = .ok (.if_icmp .ne 7, 3) := by decide +kernel
theorem dX6_append_26 : decode cX6_append 26 = .ok (.iconst 2, 1) := by decide +kernel
theorem dX6_append_27 : decode cX6_append 27 = .ok (.goto 4, 3) := by decide +kernel
theorem dX6_append_30 : decode cX6_append 30 = .ok (.iconst 0, 1) := by decide +kernel
theorem dX6_append_31 : decode cX6_append 31 = .ok (.invokevirtual 108, 3) := by decide +kernel
theorem dX6_append_34 : decode cX6_append 34 = .ok (.ifCond .eq 5, 3) := by decide +kernel
theorem dX6_append_37 : decode cX6_append 37 = .ok (.iconst 0, 1) := by decide +kernel
theorem dX6_append_38 : decode cX6_append 38 = .ok (.ireturn, 1) := by decide +kernel
theorem dX6_append_39 : decode cX6_append 39 = .ok (.aload_n 0, 1) := by decide +kernel
theorem dX6_append_40 : decode cX6_append 40 = .ok (.getfield 7, 3) := by decide +kernel
theorem dX6_append_43 : decode cX6_append 43 = .ok (.aload_n 0, 1) := by decide +kernel
theorem dX6_append_44 : decode cX6_append 44 = .ok (.getfield 105, 3) := by decide +kernel
theorem dX6_append_47 : decode cX6_append 47 = .ok (.iload_n 1, 1) := by decide +kernel
theorem dX6_append_48 : decode cX6_append 48 = .ok (.iastore, 1) := by decide +kernel
theorem dX6_append_49 : decode cX6_append 49 = .ok (.aload_n 0, 1) := by decide +kernel
theorem dX6_append_50 : decode cX6_append 50 = .ok (.dup, 1) := by decide +kernel
theorem dX6_append_51 : decode cX6_append 51 = .ok (.getfield 105, 3) := by decide +kernel
theorem dX6_append_54 : decode cX6_append 54 = .ok (.iconst 1, 1) := by decide +kernel
theorem dX6_append_55 : decode cX6_append 55 = .ok (.iadd, 1) := by decide +kernel
theorem dX6_append_56 : decode cX6_append 56 = .ok (.putfield 105, 3) := by decide +kernel
theorem dX6_append_59 : decode cX6_append 59 = .ok (.aload_n 0, 1) := by decide +kernel
theorem dX6_append_60 : decode cX6_append 60 = .ok (.getfield 105, 3) := by decide +kernel
theorem dX6_append_63 : decode cX6_append 63 = .ok (.ireturn, 1) := by decide +kernel
theorem dX6_clearText_0 : decode cX6_clearText 0 = .ok (.aload_n 0, 1) := by decide +kernel
theorem dX6_clearText_1 : decode cX6_clearText 1 = .ok (.iconst 0, 1) := by decide +kernel
theorem dX6_clearText_2 : decode cX6_clearText 2 = .ok (.putfield 33, 3) := by decide +kernel
theorem dX6_clearText_5 : decode cX6_clearText 5 = .ok (.aload_n 0, 1) := by decide +kernel
theorem dX6_clearText_6 : decode cX6_clearText 6 = .ok (.getfield 105, 3) := by decide +kernel
theorem dX6_clearText_9 : decode cX6_clearText 9 = .ok (.istore_n 1, 1) := by decide +kernel
theorem dX6_clearText_10 : decode cX6_clearText 10 = .ok (.aload_n 0, 1) := by decide +kernel
theorem dX6_clearText_11 : decode cX6_clearText 11 = .ok (.iconst 0, 1) := by decide +kernel
theorem dX6_clearText_12 : decode cX6_clearText 12 = .ok (.putfield 105, 3) := by decide +kernel
theorem dX6_clearText_15 : decode cX6_clearText 15 = .ok (.iload_n 1, 1) := by decide +kernel
theorem dX6_clearText_16 : decode cX6_clearText 16 = .ok (.ireturn, 1) := by decide +kernel
theorem dX6_figures_0 : decode cX6_figures 0 = .ok (.iconst 0, 1) := by decide +kernel
theorem dX6_figures_1 : decode cX6_figures 1 = .ok (.istore 5, 2) := by decide +kernel
theorem dX6_figures_3 : decode cX6_figures 3 = .ok (.iload_n 2, 1) := by decide +kernel
theorem dX6_figures_4 : decode cX6_figures 4 = .ok (.istore 6, 2) := by decide +kernel
theorem dX6_figures_6 : decode cX6_figures 6 = .ok (.iload 6, 2) := by decide +kernel
theorem dX6_figures_8 : decode cX6_figures 8 = .ok (.ifCond .le 104, 3) := by decide +kernel
theorem dX6_figures_11 : decode cX6_figures 11 = .ok (.iload_n 1, 1) := by decide +kernel
theorem dX6_figures_12 : decode cX6_figures 12 = .ok (.iconst (-1), 1) := by decide +kernel
theorem dX6_figures_13 : decode cX6_figures 13 = .ok (.if_icmp .eq 99, 3) := by decide +kernel
theorem dX6_figures_16 : decode cX6_figures 16 = .ok (.aload_n 0, 1) := by decide +kernel
theorem dX6_figures_17 : decode cX6_figures 17 = .ok (.getfield 112, 3) := by decide +kernel
theorem dX6_figures_20 : decode cX6_figures 20 = .ok (.aload_n 0, 1) := by decide +kernel
theorem dX6_figures_21 : decode cX6_figures 21 = .ok (.getfield 105, 3) := by decide +kernel
theorem dX6_figures_24 : decode cX6_figures 24 = .ok (.if_icmp .ge 18, 3) := by decide +kernel
theorem dX6_figures_27 : decode cX6_figures 27 = .ok (.aload_n 0, 1) := by decide +kernel
theorem dX6_figures_28 : decode cX6_figures 28 = .ok (.getfield 7, 3) := by decide +kernel
theorem dX6_figures_31 : decode cX6_figures 31 = .ok (.aload_n 0, 1) := by decide +kernel
theorem dX6_figures_32 : decode cX6_figures 32 = .ok (.getfield 112, 3) := by decide +kernel
theorem dX6_figures_35 : decode cX6_figures 35 = .ok (.iaload, 1) := by decide +kernel
theorem dX6_figures_36 : decode cX6_figures 36 = .ok (.bipush 48, 2) := by decide +kernel
theorem dX6_figures_38 : decode cX6_figures 38 = .ok (.isub, 1) := by decide +kernel
theorem dX6_figures_39 : decode cX6_figures 39 = .ok (.goto 4, 3) := by decide +kernel
theorem dX6_figures_42 : decode cX6_figures 42 = .ok (.iconst (-1), 1) := by decide +kernel
theorem dX6_figures_43 : decode cX6_figures 43 = .ok (.istore 7, 2) := by decide +kernel
theorem dX6_figures_45 : decode cX6_figures 45 = .ok (.iload 5, 2) := by decide +kernel
theorem dX6_figures_47 : decode cX6_figures 47 = .ok (.iload 7, 2) := by decide +kernel
theorem dX6_figures_49 : decode cX6_figures 49 = .ok (.iload 6, 2) := by decide +kernel
theorem dX6_figures_51 : decode cX6_figures 51 = .ok (.imul, 1) := by decide +kernel
theorem dX6_figures_52 : decode cX6_figures 52 = .ok (.iadd, 1) := by decide +kernel
theorem dX6_figures_53 : decode cX6_figures 53 = .ok (.istore 8, 2) := by decide +kernel
theorem dX6_figures_55 : decode cX6_figures 55 = .ok (.iload 7, 2) := by decide +kernel
theorem dX6_figures_57 : decode cX6_figures 57 = .ok (.i2l, 1) := by decide +kernel
theorem dX6_figures_58 : decode cX6_figures 58 = .ok (.lconst 0, 1) := by decide +kernel
theorem dX6_figures_59 : decode cX6_figures 59 = .ok (.ldc2_w 47, 3) := by decide +kernel
theorem dX6_figures_62 : decode cX6_figures 62 = .ok (.invokestatic 37, 3) := by decide +kernel
theorem dX6_figures_65 : decode cX6_figures 65 = .ok (.ifCond .eq 21, 3) := by decide +kernel
theorem dX6_figures_68 : decode cX6_figures 68 = .ok (.iload 8, 2) := by decide +kernel
theorem dX6_figures_70 : decode cX6_figures 70 = .ok (.iload 4, 2) := by decide +kernel
theorem dX6_figures_72 : decode cX6_figures 72 = .ok (.if_icmp .gt 14, 3) := by decide +kernel
theorem dX6_figures_75 : decode cX6_figures 75 = .ok (.iload 8, 2) := by decide +kernel
theorem dX6_figures_77 : decode cX6_figures 77 = .ok (.iload 6, 2) := by decide +kernel
theorem dX6_figures_79 : decode cX6_figures 79 = .ok (.iadd, 1) := by decide +kernel
theorem dX6_figures_80 : decode cX6_figures 80 = .ok (.iconst 1, 1) := by decide +kernel
theorem dX6_figures_81 : decode cX6_figures 81 = .ok (.isub, 1) := by decide +kernel
theorem dX6_figures_82 : decode cX6_figures 82 = .ok (.iload_n 3, 1) := by decide +kernel
theorem dX6_figures_83 : decode cX6_figures 83 = .ok (.if_icmp .ge 5, 3) := by decide +kernel
theorem dX6_figures_86 : decode cX6_figures 86 = .ok (.iconst (-1), 1) := by decide +kernel
theorem dX6_figures_87 : decode cX6_figures 87 = .ok (.ireturn, 1) := by decide +kernel
theorem dX6_figures_88 : decode cX6_figures 88 = .ok (.iload 8, 2) := by decide +kernel
theorem dX6_figures_90 : decode cX6_figures 90 = .ok (.istore 5, 2) := by decide +kernel
theorem dX6_figures_92 : decode cX6_figures 92 = .ok (.aload_n 0, 1) := by decide +kernel
theorem dX6_figures_93 : decode cX6_figures 93 = .ok (.dup, 1) := by decide +kernel
theorem dX6_figures_94 : decode cX6_figures 94 = .ok (.getfield 112, 3) := by decide +kernel
theorem dX6_figures_97 : decode cX6_figures 97 = .ok (.iconst 1, 1) := by decide +kernel
theorem dX6_figures_98 : decode cX6_figures 98 = .ok (.iadd, 1) := by decide +kernel
theorem dX6_figures_99 : decode cX6_figures 99 = .ok (.putfield 112, 3) := by decide +kernel
theorem dX6_figures_102 : decode cX6_figures 102 = .ok (.iload 6, 2) := by decide +kernel
theorem dX6_figures_104 : decode cX6_figures 104 = .ok (.bipush 10, 2) := by decide +kernel
theorem dX6_figures_106 : decode cX6_figures 106 = .ok (.idiv, 1) := by decide +kernel
theorem dX6_figures_107 : decode cX6_figures 107 = .ok (.istore 6, 2) := by decide +kernel
theorem dX6_figures_109 : decode cX6_figures 109 = .ok (.goto (-103), 3) := by decide +kernel
theorem dX6_figures_112 : decode cX6_figures 112 = .ok (.iload_n 1, 1) := by decide +kernel
theorem dX6_figures_113 : decode cX6_figures 113 = .ok (.iconst (-1), 1) := by decide +kernel
theorem dX6_figures_114 : decode cX6_figures 114 = .ok (.if_icmp .ne 7, 3) := by decide +kernel
theorem dX6_figures_117 : decode cX6_figures 117 = .ok (.iconst (-1), 1) := by decide +kernel
theorem dX6_figures_118 : decode cX6_figures 118 = .ok (.goto 5, 3) := by decide +kernel
theorem dX6_figures_121 : decode cX6_figures 121 = .ok (.iload 5, 2) := by decide +kernel
theorem dX6_figures_123 : decode cX6_figures 123 = .ok (.ireturn, 1) := by decide +kernel
theorem dX6_done_0 : decode cX6_done 0 = .ok (.aload_n 0, 1) := by decide +kernel
theorem dX6_done_1 : decode cX6_done 1 = .ok (.dup, 1) := by decide +kernel
theorem dX6_done_2 : decode cX6_done 2 = .ok (.getfield 115, 3) := by decide +kernel
theorem dX6_done_5 : decode cX6_done 5 = .ok (.iload_n 1, 1) := by decide +kernel
theorem dX6_done_6 : decode cX6_done 6 = .ok (.ifCond .eq 7, 3) := by decide +kernel
theorem dX6_done_9 : decode cX6_done 9 = .ok (.iconst 0, 1) := by decide +kernel
theorem dX6_done_10 : decode cX6_done 10 = .ok (.goto 4, 3) := by decide +kernel
theorem dX6_done_13 : decode cX6_done 13 = .ok (.iconst 1, 1) := by decide +kernel
theorem dX6_done_14 : decode cX6_done 14 = .ok (.iadd, 1) := by decide +kernel
theorem dX6_done_15 : decode cX6_done 15 = .ok (.putfield 115, 3) := by decide +kernel
theorem dX6_done_18 : decode cX6_done 18 = .ok (.iconst 1, 1) := by decide +kernel
theorem dX6_done_19 : decode cX6_done 19 = .ok (.ireturn, 1) := by decide +kernel
theorem dX6_customerSign_0 : decode cX6_customerSign 0 = .ok (.aload_n 0, 1) := by decide +kernel
theorem dX6_customerSign_1 : decode cX6_customerSign 1 = .ok (.iconst 0, 1) := by decide +kernel
theorem dX6_customerSign_2 : decode cX6_customerSign 2 = .ok (.iconst 1, 1) := by decide +kernel
theorem dX6_customerSign_3 : decode cX6_customerSign 3 = .ok (.iconst 0, 1) := by decide +kernel
theorem dX6_customerSign_4 : decode cX6_customerSign 4 = .ok (.bipush 9, 2) := by decide +kernel
theorem dX6_customerSign_6 : decode cX6_customerSign 6 = .ok (.invokevirtual 118, 3) := by decide +kernel
theorem dX6_customerSign_9 : decode cX6_customerSign 9 = .ok (.ireturn, 1) := by decide +kernel
theorem dX6_streetSign_0 : decode cX6_streetSign 0 = .ok (.aload_n 0, 1) := by decide +kernel
theorem dX6_streetSign_1 : decode cX6_streetSign 1 = .ok (.iload_n 1, 1) := by decide +kernel
theorem dX6_streetSign_2 : decode cX6_streetSign 2 = .ok (.iconst 1, 1) := by decide +kernel
theorem dX6_streetSign_3 : decode cX6_streetSign 3 = .ok (.iconst 0, 1) := by decide +kernel
theorem dX6_streetSign_4 : decode cX6_streetSign 4 = .ok (.iconst 3, 1) := by decide +kernel
theorem dX6_streetSign_5 : decode cX6_streetSign 5 = .ok (.invokevirtual 118, 3) := by decide +kernel
theorem dX6_streetSign_8 : decode cX6_streetSign 8 = .ok (.ireturn, 1) := by decide +kernel
theorem dX6_readCustomer_0 : decode cX6_readCustomer 0 = .ok (.aload_n 0, 1) := by decide +kernel
theorem dX6_readCustomer_1 : decode cX6_readCustomer 1 = .ok (.iconst 0, 1) := by decide +kernel
theorem dX6_readCustomer_2 : decode cX6_readCustomer 2 = .ok (.invokevirtual 122, 3) := by decide +kernel
theorem dX6_readCustomer_5 : decode cX6_readCustomer 5 = .ok (.istore_n 2, 1) := by decide +kernel
theorem dX6_readCustomer_6 : decode cX6_readCustomer 6 = .ok (.aload_n 0, 1) := by decide +kernel
theorem dX6_readCustomer_7 : decode cX6_readCustomer 7 = .ok (.iload_n 2, 1) := by decide +kernel
theorem dX6_readCustomer_8 : decode cX6_readCustomer 8 = .ok (.ldc 126, 2) := by decide +kernel
theorem dX6_readCustomer_10 : decode cX6_readCustomer 10 = .ok (.iconst 0, 1) := by decide +kernel
theorem dX6_readCustomer_11 : decode cX6_readCustomer 11 = .ok (.ldc 127, 2) := by decide +kernel
theorem dX6_readCustomer_13 : decode cX6_readCustomer 13 = .ok (.invokevirtual 118, 3) := by decide +kernel
theorem dX6_readCustomer_16 : decode cX6_readCustomer 16 = .ok (.istore_n 3, 1) := by decide +kernel
theorem dX6_readCustomer_17 : decode cX6_readCustomer 17 = .ok (.iload_n 3, 1) := by decide +kernel
theorem dX6_readCustomer_18 : decode cX6_readCustomer 18 = .ok (.iconst (-1), 1) := by decide +kernel
theorem dX6_readCustomer_19 : decode cX6_readCustomer 19 = .ok (.if_icmp .eq 36, 3) := by decide +kernel
theorem dX6_readCustomer_22 : decode cX6_readCustomer 22 = .ok (.aload_n 0, 1) := by decide +kernel
theorem dX6_readCustomer_23 : decode cX6_readCustomer 23 = .ok (.aload_n 1, 1) := by decide +kernel
theorem dX6_readCustomer_24 : decode cX6_readCustomer 24 = .ok (.iconst 0, 1) := by decide +kernel
theorem dX6_readCustomer_25 : decode cX6_readCustomer 25 = .ok (.iaload, 1) := by decide +kernel
theorem dX6_readCustomer_26 : decode cX6_readCustomer 26 = .ok (.bipush 10, 2) := by decide +kernel
theorem dX6_readCustomer_28 : decode cX6_readCustomer 28 = .ok (.if_icmp .ge 16, 3) := by decide +kernel
theorem dX6_readCustomer_31 : decode cX6_readCustomer 31 = .ok (.aload_n 1, 1) := by decide +kernel
theorem dX6_readCustomer_32 : decode cX6_readCustomer 32 = .ok (.iload_n 2, 1) := by decide +kernel
theorem dX6_readCustomer_33 : decode cX6_readCustomer 33 = .ok (.iload_n 3, 1) := by decide +kernel
theorem dX6_readCustomer_34 : decode cX6_readCustomer 34 = .ok (.invokestatic 128, 3) := by decide +kernel
theorem dX6_readCustomer_37 : decode cX6_readCustomer 37 = .ok (.ifCond .lt 7, 3) := by decide +kernel
theorem dX6_readCustomer_40 : decode cX6_readCustomer 40 = .ok (.iconst 1, 1) := by decide +kernel
theorem dX6_readCustomer_41 : decode cX6_readCustomer 41 = .ok (.goto 4, 3) := by decide +kernel
theorem dX6_readCustomer_44 : decode cX6_readCustomer 44 = .ok (.iconst 0, 1) := by decide +kernel
theorem dX6_readCustomer_45 : decode cX6_readCustomer 45 = .ok (.invokevirtual 131, 3) := by decide +kernel
theorem dX6_readCustomer_48 : decode cX6_readCustomer 48 = .ok (.ifCond .eq 7, 3) := by decide +kernel
theorem dX6_readCustomer_51 : decode cX6_readCustomer 51 = .ok (.iconst 1, 1) := by decide +kernel
theorem dX6_readCustomer_52 : decode cX6_readCustomer 52 = .ok (.goto 4, 3) := by decide +kernel
theorem dX6_readCustomer_55 : decode cX6_readCustomer 55 = .ok (.iconst 0, 1) := by decide +kernel
theorem dX6_readCustomer_56 : decode cX6_readCustomer 56 = .ok (.ireturn, 1) := by decide +kernel
theorem dX6_readChange_0 : decode cX6_readChange 0 = .ok (.aload_n 0, 1) := by decide +kernel
theorem dX6_readChange_1 : decode cX6_readChange 1 = .ok (.invokevirtual 135, 3) := by decide +kernel
theorem dX6_readChange_4 : decode cX6_readChange 4 = .ok (.istore_n 2, 1) := by decide +kernel
theorem dX6_readChange_5 : decode cX6_readChange 5 = .ok (.aload_n 0, 1) := by decide +kernel
theorem dX6_readChange_6 : decode cX6_readChange 6 = .ok (.iload_n 2, 1) := by decide +kernel
theorem dX6_readChange_7 : decode cX6_readChange 7 = .ok (.iconst 1, 1) := by decide +kernel
theorem dX6_readChange_8 : decode cX6_readChange 8 = .ok (.iconst 0, 1) := by decide +kernel
theorem dX6_readChange_9 : decode cX6_readChange 9 = .ok (.bipush 6, 2) := by decide +kernel
theorem dX6_readChange_11 : decode cX6_readChange 11 = .ok (.invokevirtual 118, 3) := by decide +kernel
theorem dX6_readChange_14 : decode cX6_readChange 14 = .ok (.istore_n 3, 1) := by decide +kernel
theorem dX6_readChange_15 : decode cX6_readChange 15 = .ok (.aload_n 0, 1) := by decide +kernel
theorem dX6_readChange_16 : decode cX6_readChange 16 = .ok (.iload_n 3, 1) := by decide +kernel
theorem dX6_readChange_17 : decode cX6_readChange 17 = .ok (.iconst 1, 1) := by decide +kernel
theorem dX6_readChange_18 : decode cX6_readChange 18 = .ok (.iconst 0, 1) := by decide +kernel
theorem dX6_readChange_19 : decode cX6_readChange 19 = .ok (.bipush 9, 2) := by decide +kernel
theorem dX6_readChange_21 : decode cX6_readChange 21 = .ok (.invokevirtual 118, 3) := by decide +kernel
theorem dX6_readChange_24 : decode cX6_readChange 24 = .ok (.istore 4, 2) := by decide +kernel
theorem dX6_readChange_26 : decode cX6_readChange 26 = .ok (.iload 4, 2) := by decide +kernel
theorem dX6_readChange_28 : decode cX6_readChange 28 = .ok (.iconst (-1), 1) := by decide +kernel
theorem dX6_readChange_29 : decode cX6_readChange 29 = .ok (.if_icmp .eq 38, 3) := by decide +kernel
theorem dX6_readChange_32 : decode cX6_readChange 32 = .ok (.aload_n 0, 1) := by decide +kernel
theorem dX6_readChange_33 : decode cX6_readChange 33 = .ok (.aload_n 1, 1) := by decide +kernel
theorem dX6_readChange_34 : decode cX6_readChange 34 = .ok (.iload_n 2, 1) := by decide +kernel
theorem dX6_readChange_35 : decode cX6_readChange 35 = .ok (.invokestatic 139, 3) := by decide +kernel
theorem dX6_readChange_38 : decode cX6_readChange 38 = .ok (.ifCond .eq 18, 3) := by decide +kernel
theorem dX6_readChange_41 : decode cX6_readChange 41 = .ok (.aload_n 1, 1) := by decide +kernel
theorem dX6_readChange_42 : decode cX6_readChange 42 = .ok (.iload_n 2, 1) := by decide +kernel
theorem dX6_readChange_43 : decode cX6_readChange 43 = .ok (.iload_n 3, 1) := by decide +kernel
theorem dX6_readChange_44 : decode cX6_readChange 44 = .ok (.iload 4, 2) := by decide +kernel
theorem dX6_readChange_46 : decode cX6_readChange 46 = .ok (.invokestatic 143, 3) := by decide +kernel
theorem dX6_readChange_49 : decode cX6_readChange 49 = .ok (.ifCond .lt 7, 3) := by decide +kernel
theorem dX6_readChange_52 : decode cX6_readChange 52 = .ok (.iconst 1, 1) := by decide +kernel
theorem dX6_readChange_53 : decode cX6_readChange 53 = .ok (.goto 4, 3) := by decide +kernel
theorem dX6_readChange_56 : decode cX6_readChange 56 = .ok (.iconst 0, 1) := by decide +kernel
theorem dX6_readChange_57 : decode cX6_readChange 57 = .ok (.invokevirtual 131, 3) := by decide +kernel
theorem dX6_readChange_60 : decode cX6_readChange 60 = .ok (.ifCond .eq 7, 3) := by decide +kernel
theorem dX6_readChange_63 : decode cX6_readChange 63 = .ok (.iconst 1, 1) := by decide +kernel
theorem dX6_readChange_64 : decode cX6_readChange 64 = .ok (.goto 4, 3) := by decide +kernel
theorem dX6_readChange_67 : decode cX6_readChange 67 = .ok (.iconst 0, 1) := by decide +kernel
theorem dX6_readChange_68 : decode cX6_readChange 68 = .ok (.ireturn, 1) := by decide +kernel
theorem dX6_readHoliday_0 : decode cX6_readHoliday 0 = .ok (.aload_n 0, 1) := by decide +kernel
theorem dX6_readHoliday_1 : decode cX6_readHoliday 1 = .ok (.invokevirtual 135, 3) := by decide +kernel
theorem dX6_readHoliday_4 : decode cX6_readHoliday 4 = .ok (.istore_n 2, 1) := by decide +kernel
theorem dX6_readHoliday_5 : decode cX6_readHoliday 5 = .ok (.aload_n 0, 1) := by decide +kernel
theorem dX6_readHoliday_6 : decode cX6_readHoliday 6 = .ok (.iload_n 2, 1) := by decide +kernel
theorem dX6_readHoliday_7 : decode cX6_readHoliday 7 = .ok (.bipush 10, 2) := by decide +kernel
theorem dX6_readHoliday_9 : decode cX6_readHoliday 9 = .ok (.iconst 0, 1) := by decide +kernel
theorem dX6_readHoliday_10 : decode cX6_readHoliday 10 = .ok (.bipush 99, 2) := by decide +kernel
theorem dX6_readHoliday_12 : decode cX6_readHoliday 12 = .ok (.invokevirtual 118, 3) := by decide +kernel
theorem dX6_readHoliday_15 : decode cX6_readHoliday 15 = .ok (.istore_n 3, 1) := by decide +kernel
theorem dX6_readHoliday_16 : decode cX6_readHoliday 16 = .ok (.aload_n 0, 1) := by decide +kernel
theorem dX6_readHoliday_17 : decode cX6_readHoliday 17 = .ok (.iload_n 3, 1) := by decide +kernel
theorem dX6_readHoliday_18 : decode cX6_readHoliday 18 = .ok (.bipush 10, 2) := by decide +kernel
theorem dX6_readHoliday_20 : decode cX6_readHoliday 20 = .ok (.iconst 0, 1) := by decide +kernel
theorem dX6_readHoliday_21 : decode cX6_readHoliday 21 = .ok (.bipush 99, 2) := by decide +kernel
theorem dX6_readHoliday_23 : decode cX6_readHoliday 23 = .ok (.invokevirtual 118, 3) := by decide +kernel
theorem dX6_readHoliday_26 : decode cX6_readHoliday 26 = .ok (.istore 4, 2) := by decide +kernel
theorem dX6_readHoliday_28 : decode cX6_readHoliday 28 = .ok (.iload 4, 2) := by decide +kernel
theorem dX6_readHoliday_30 : decode cX6_readHoliday 30 = .ok (.iconst (-1), 1) := by decide +kernel
theorem dX6_readHoliday_31 : decode cX6_readHoliday 31 = .ok (.if_icmp .eq 55, 3) := by decide +kernel
theorem dX6_readHoliday_34 : decode cX6_readHoliday 34 = .ok (.aload_n 0, 1) := by decide +kernel
theorem dX6_readHoliday_35 : decode cX6_readHoliday 35 = .ok (.aload_n 1, 1) := by decide +kernel
theorem dX6_readHoliday_36 : decode cX6_readHoliday 36 = .ok (.iload_n 2, 1) := by decide +kernel
theorem dX6_readHoliday_37 : decode cX6_readHoliday 37 = .ok (.invokestatic 139, 3) := by decide +kernel
theorem dX6_readHoliday_40 : decode cX6_readHoliday 40 = .ok (.ifCond .eq 35, 3) := by decide +kernel
theorem dX6_readHoliday_43 : decode cX6_readHoliday 43 = .ok (.iload_n 3, 1) := by decide +kernel
theorem dX6_readHoliday_44 : decode cX6_readHoliday 44 = .ok (.iload 4, 2) := by decide +kernel
theorem dX6_readHoliday_46 : decode cX6_readHoliday 46 = .ok (.if_icmp .gt 29, 3) := by decide +kernel
theorem dX6_readHoliday_49 : decode cX6_readHoliday 49 = .ok (.aload_n 1, 1) := by decide +kernel
theorem dX6_readHoliday_50 : decode cX6_readHoliday 50 = .ok (.iload_n 2, 1) := by decide +kernel
theorem dX6_readHoliday_51 : decode cX6_readHoliday 51 = .ok (.bipush 14, 2) := by decide +kernel
theorem dX6_readHoliday_53 : decode cX6_readHoliday 53 = .ok (.invokestatic 53, 3) := by decide +kernel
theorem dX6_readHoliday_56 : decode cX6_readHoliday 56 = .ok (.iconst 3, 1) := by decide +kernel
theorem dX6_readHoliday_57 : decode cX6_readHoliday 57 = .ok (.if_icmp .ge 18, 3) := by decide +kernel
theorem dX6_readHoliday_60 : decode cX6_readHoliday 60 = .ok (.aload_n 1, 1) := by decide +kernel
theorem dX6_readHoliday_61 : decode cX6_readHoliday 61 = .ok (.iload_n 2, 1) := by decide +kernel
theorem dX6_readHoliday_62 : decode cX6_readHoliday 62 = .ok (.iload_n 3, 1) := by decide +kernel
theorem dX6_readHoliday_63 : decode cX6_readHoliday 63 = .ok (.iload 4, 2) := by decide +kernel
theorem dX6_readHoliday_65 : decode cX6_readHoliday 65 = .ok (.invokestatic 146, 3) := by decide +kernel
theorem dX6_readHoliday_68 : decode cX6_readHoliday 68 = .ok (.ifCond .le 7, 3) := by decide +kernel
theorem dX6_readHoliday_71 : decode cX6_readHoliday 71 = .ok (.iconst 1, 1) := by decide +kernel
theorem dX6_readHoliday_72 : decode cX6_readHoliday 72 = .ok (.goto 4, 3) := by decide +kernel
theorem dX6_readHoliday_75 : decode cX6_readHoliday 75 = .ok (.iconst 0, 1) := by decide +kernel
theorem dX6_readHoliday_76 : decode cX6_readHoliday 76 = .ok (.invokevirtual 131, 3) := by decide +kernel
theorem dX6_readHoliday_79 : decode cX6_readHoliday 79 = .ok (.ifCond .eq 7, 3) := by decide +kernel
theorem dX6_readHoliday_82 : decode cX6_readHoliday 82 = .ok (.iconst 1, 1) := by decide +kernel
theorem dX6_readHoliday_83 : decode cX6_readHoliday 83 = .ok (.goto 4, 3) := by decide +kernel
theorem dX6_readHoliday_86 : decode cX6_readHoliday 86 = .ok (.iconst 0, 1) := by decide +kernel
theorem dX6_readHoliday_87 : decode cX6_readHoliday 87 = .ok (.ireturn, 1) := by decide +kernel
theorem dX6_readClose_0 : decode cX6_readClose 0 = .ok (.aload_n 0, 1) := by decide +kernel
theorem dX6_readClose_1 : decode cX6_readClose 1 = .ok (.iconst 0, 1) := by decide +kernel
theorem dX6_readClose_2 : decode cX6_readClose 2 = .ok (.invokevirtual 122, 3) := by decide +kernel
theorem dX6_readClose_5 : decode cX6_readClose 5 = .ok (.istore_n 2, 1) := by decide +kernel
theorem dX6_readClose_6 : decode cX6_readClose 6 = .ok (.aload_n 0, 1) := by decide +kernel
theorem dX6_readClose_7 : decode cX6_readClose 7 = .ok (.iload_n 2, 1) := by decide +kernel
theorem dX6_readClose_8 : decode cX6_readClose 8 = .ok (.iconst 1, 1) := by decide +kernel
theorem dX6_readClose_9 : decode cX6_readClose 9 = .ok (.iconst 0, 1) := by decide +kernel
theorem dX6_readClose_10 : decode cX6_readClose 10 = .ok (.bipush 6, 2) := by decide +kernel
theorem dX6_readClose_12 : decode cX6_readClose 12 = .ok (.invokevirtual 118, 3) := by decide +kernel
theorem dX6_readClose_15 : decode cX6_readClose 15 = .ok (.istore_n 3, 1) := by decide +kernel
theorem dX6_readClose_16 : decode cX6_readClose 16 = .ok (.iload_n 3, 1) := by decide +kernel
theorem dX6_readClose_17 : decode cX6_readClose 17 = .ok (.iconst (-1), 1) := by decide +kernel
theorem dX6_readClose_18 : decode cX6_readClose 18 = .ok (.if_icmp .eq 42, 3) := by decide +kernel
theorem dX6_readClose_21 : decode cX6_readClose 21 = .ok (.aload_n 0, 1) := by decide +kernel
theorem dX6_readClose_22 : decode cX6_readClose 22 = .ok (.getfield 112, 3) := by decide +kernel
theorem dX6_readClose_25 : decode cX6_readClose 25 = .ok (.aload_n 0, 1) := by decide +kernel
theorem dX6_readClose_26 : decode cX6_readClose 26 = .ok (.getfield 105, 3) := by decide +kernel
theorem dX6_readClose_29 : decode cX6_readClose 29 = .ok (.if_icmp .eq 31, 3) := by decide +kernel
theorem dX6_readClose_32 : decode cX6_readClose 32 = .ok (.aload_n 0, 1) := by decide +kernel
theorem dX6_readClose_33 : decode cX6_readClose 33 = .ok (.getfield 7, 3) := by decide +kernel
theorem dX6_readClose_36 : decode cX6_readClose 36 = .ok (.aload_n 0, 1) := by decide +kernel
theorem dX6_readClose_37 : decode cX6_readClose 37 = .ok (.getfield 112, 3) := by decide +kernel
theorem dX6_readClose_40 : decode cX6_readClose 40 = .ok (.iaload, 1) := by decide +kernel
theorem dX6_readClose_41 : decode cX6_readClose 41 = .ok (.bipush 43, 2) := by decide +kernel
theorem dX6_readClose_43 : decode cX6_readClose 43 = .ok (.if_icmp .eq 19, 3) := by decide +kernel
theorem dX6_readClose_46 : decode cX6_readClose 46 = .ok (.aload_n 0, 1) := by decide +kernel
theorem dX6_readClose_47 : decode cX6_readClose 47 = .ok (.getfield 7, 3) := by decide +kernel
theorem dX6_readClose_50 : decode cX6_readClose 50 = .ok (.aload_n 0, 1) := by decide +kernel
theorem dX6_readClose_51 : decode cX6_readClose 51 = .ok (.getfield 112, 3) := by decide +kernel
theorem dX6_readClose_54 : decode cX6_readClose 54 = .ok (.iaload, 1) := by decide +kernel
theorem dX6_readClose_55 : decode cX6_readClose 55 = .ok (.bipush 45, 2) := by decide +kernel
theorem dX6_readClose_57 : decode cX6_readClose 57 = .ok (.if_icmp .eq 5, 3) := by decide +kernel
theorem dX6_readClose_60 : decode cX6_readClose 60 = .ok (.iconst 0, 1) := by decide +kernel
theorem dX6_readClose_61 : decode cX6_readClose 61 = .ok (.ireturn, 1) := by decide +kernel
theorem dX6_readClose_62 : decode cX6_readClose 62 = .ok (.aload_n 0, 1) := by decide +kernel
theorem dX6_readClose_63 : decode cX6_readClose 63 = .ok (.getfield 7, 3) := by decide +kernel
theorem dX6_readClose_66 : decode cX6_readClose 66 = .ok (.aload_n 0, 1) := by decide +kernel
theorem dX6_readClose_67 : decode cX6_readClose 67 = .ok (.getfield 112, 3) := by decide +kernel
theorem dX6_readClose_70 : decode cX6_readClose 70 = .ok (.iaload, 1) := by decide +kernel
theorem dX6_readClose_71 : decode cX6_readClose 71 = .ok (.bipush 43, 2) := by decide +kernel
theorem dX6_readClose_73 : decode cX6_readClose 73 = .ok (.if_icmp .ne 7, 3) := by decide +kernel
theorem dX6_readClose_76 : decode cX6_readClose 76 = .ok (.iconst 1, 1) := by decide +kernel
theorem dX6_readClose_77 : decode cX6_readClose 77 = .ok (.goto 4, 3) := by decide +kernel
theorem dX6_readClose_80 : decode cX6_readClose 80 = .ok (.iconst 0, 1) := by decide +kernel
theorem dX6_readClose_81 : decode cX6_readClose 81 = .ok (.istore 4, 2) := by decide +kernel
theorem dX6_readClose_83 : decode cX6_readClose 83 = .ok (.aload_n 0, 1) := by decide +kernel
theorem dX6_readClose_84 : decode cX6_readClose 84 = .ok (.dup, 1) := by decide +kernel
theorem dX6_readClose_85 : decode cX6_readClose 85 = .ok (.getfield 112, 3) := by decide +kernel
theorem dX6_readClose_88 : decode cX6_readClose 88 = .ok (.iconst 1, 1) := by decide +kernel
theorem dX6_readClose_89 : decode cX6_readClose 89 = .ok (.iadd, 1) := by decide +kernel
theorem dX6_readClose_90 : decode cX6_readClose 90 = .ok (.putfield 112, 3) := by decide +kernel
theorem dX6_readClose_93 : decode cX6_readClose 93 = .ok (.aload_n 0, 1) := by decide +kernel
theorem dX6_readClose_94 : decode cX6_readClose 94 = .ok (.aload_n 1, 1) := by decide +kernel
theorem dX6_readClose_95 : decode cX6_readClose 95 = .ok (.iload_n 2, 1) := by decide +kernel
theorem dX6_readClose_96 : decode cX6_readClose 96 = .ok (.iload_n 3, 1) := by decide +kernel
theorem dX6_readClose_97 : decode cX6_readClose 97 = .ok (.iload 4, 2) := by decide +kernel
theorem dX6_readClose_99 : decode cX6_readClose 99 = .ok (.invokestatic 149, 3) := by decide +kernel
theorem dX6_readClose_102 : decode cX6_readClose 102 = .ok (.ifCond .lt 7, 3) := by decide +kernel
theorem dX6_readClose_105 : decode cX6_readClose 105 = .ok (.iconst 1, 1) := by decide +kernel
theorem dX6_readClose_106 : decode cX6_readClose 106 = .ok (.goto 4, 3) := by decide +kernel
theorem dX6_readClose_109 : decode cX6_readClose 109 = .ok (.iconst 0, 1) := by decide +kernel
theorem dX6_readClose_110 : decode cX6_readClose 110 = .ok (.invokevirtual 131, 3) := by decide +kernel
theorem dX6_readClose_113 : decode cX6_readClose 113 = .ok (.ireturn, 1) := by decide +kernel
theorem dX6_readCommand_0 : decode cX6_readCommand 0 = .ok (.aload_n 0, 1) := by decide +kernel
theorem dX6_readCommand_1 : decode cX6_readCommand 1 = .ok (.getfield 7, 3) := by decide +kernel
theorem dX6_readCommand_4 : decode cX6_readCommand 4 = .ok (.aload_n 0, 1) := by decide +kernel
theorem dX6_readCommand_5 : decode cX6_readCommand 5 = .ok (.getfield 112, 3) := by decide +kernel
theorem dX6_readCommand_8 : decode cX6_readCommand 8 = .ok (.iaload, 1) := by decide +kernel
theorem dX6_readCommand_9 : decode cX6_readCommand 9 = .ok (.istore_n 2, 1) := by decide +kernel
theorem dX6_readCommand_10 : decode cX6_readCommand 10 = .ok (.aload_n 0, 1) := by decide +kernel
theorem dX6_readCommand_11 : decode cX6_readCommand 11 = .ok (.dup, 1) := by decide +kernel
theorem dX6_readCommand_12 : decode cX6_readCommand 12 = .ok (.getfield 112, 3) := by decide +kernel
theorem dX6_readCommand_15 : decode cX6_readCommand 15 = .ok (.iconst 1, 1) := by decide +kernel
theorem dX6_readCommand_16 : decode cX6_readCommand 16 = .ok (.iadd, 1) := by decide +kernel
theorem dX6_readCommand_17 : decode cX6_readCommand 17 = .ok (.putfield 112, 3) := by decide +kernel
theorem dX6_readCommand_20 : decode cX6_readCommand 20 = .ok (.iload_n 2, 1) := by decide +kernel
theorem dX6_readCommand_21 : decode cX6_readCommand 21 = .ok (.tableswitch 283 99 120 #[103, 241, 283, 283, 283, 115, 283, 283, 283, 283, 283, 109, 283, 283, 283, 283, 174, 283, 283, 127, 283, 121], 103) := by decide +kernel
theorem dX6_readCommand_124 : decode cX6_readCommand 124 = .ok (.aload_n 0, 1) := by decide +kernel
theorem dX6_readCommand_125 : decode cX6_readCommand 125 = .ok (.aload_n 1, 1) := by decide +kernel
theorem dX6_readCommand_126 : decode cX6_readCommand 126 = .ok (.invokevirtual 153, 3) := by decide +kernel
theorem dX6_readCommand_129 : decode cX6_readCommand 129 = .ok (.ireturn, 1) := by decide +kernel
theorem dX6_readCommand_130 : decode cX6_readCommand 130 = .ok (.aload_n 0, 1) := by decide +kernel
theorem dX6_readCommand_131 : decode cX6_readCommand 131 = .ok (.aload_n 1, 1) := by decide +kernel
theorem dX6_readCommand_132 : decode cX6_readCommand 132 = .ok (.invokevirtual 157, 3) := by decide +kernel
theorem dX6_readCommand_135 : decode cX6_readCommand 135 = .ok (.ireturn, 1) := by decide +kernel
theorem dX6_readCommand_136 : decode cX6_readCommand 136 = .ok (.aload_n 0, 1) := by decide +kernel
theorem dX6_readCommand_137 : decode cX6_readCommand 137 = .ok (.aload_n 1, 1) := by decide +kernel
theorem dX6_readCommand_138 : decode cX6_readCommand 138 = .ok (.invokevirtual 160, 3) := by decide +kernel
theorem dX6_readCommand_141 : decode cX6_readCommand 141 = .ok (.ireturn, 1) := by decide +kernel
theorem dX6_readCommand_142 : decode cX6_readCommand 142 = .ok (.aload_n 0, 1) := by decide +kernel
theorem dX6_readCommand_143 : decode cX6_readCommand 143 = .ok (.aload_n 1, 1) := by decide +kernel
theorem dX6_readCommand_144 : decode cX6_readCommand 144 = .ok (.invokevirtual 163, 3) := by decide +kernel
theorem dX6_readCommand_147 : decode cX6_readCommand 147 = .ok (.ireturn, 1) := by decide +kernel
theorem dX6_readCommand_148 : decode cX6_readCommand 148 = .ok (.aload_n 0, 1) := by decide +kernel
theorem dX6_readCommand_149 : decode cX6_readCommand 149 = .ok (.iconst 0, 1) := by decide +kernel
theorem dX6_readCommand_150 : decode cX6_readCommand 150 = .ok (.invokevirtual 122, 3) := by decide +kernel
theorem dX6_readCommand_153 : decode cX6_readCommand 153 = .ok (.istore_n 3, 1) := by decide +kernel
theorem dX6_readCommand_154 : decode cX6_readCommand 154 = .ok (.aload_n 0, 1) := by decide +kernel
theorem dX6_readCommand_155 : decode cX6_readCommand 155 = .ok (.iload_n 3, 1) := by decide +kernel
theorem dX6_readCommand_156 : decode cX6_readCommand 156 = .ok (.invokevirtual 122, 3) := by decide +kernel
theorem dX6_readCommand_159 : decode cX6_readCommand 159 = .ok (.istore 4, 2) := by decide +kernel
theorem dX6_readCommand_161 : decode cX6_readCommand 161 = .ok (.iload 4, 2) := by decide +kernel
theorem dX6_readCommand_163 : decode cX6_readCommand 163 = .ok (.iconst (-1), 1) := by decide +kernel
theorem dX6_readCommand_164 : decode cX6_readCommand 164 = .ok (.if_icmp .eq 29, 3) := by decide +kernel
theorem dX6_readCommand_167 : decode cX6_readCommand 167 = .ok (.aload_n 0, 1) := by decide +kernel
theorem dX6_readCommand_168 : decode cX6_readCommand 168 = .ok (.aload_n 1, 1) := by decide +kernel
theorem dX6_readCommand_169 : decode cX6_readCommand 169 = .ok (.iload_n 3, 1) := by decide +kernel
theorem dX6_readCommand_170 : decode cX6_readCommand 170 = .ok (.iload 4, 2) := by decide +kernel
theorem dX6_readCommand_172 : decode cX6_readCommand 172 = .ok (.invokestatic 166, 3) := by decide +kernel
theorem dX6_readCommand_175 : decode cX6_readCommand 175 = .ok (.ifCond .lt 7, 3) := by decide +kernel
theorem dX6_readCommand_178 : decode cX6_readCommand 178 = .ok (.iconst 1, 1) := by decide +kernel
theorem dX6_readCommand_179 : decode cX6_readCommand 179 = .ok (.goto 4, 3) := by decide +kernel
theorem dX6_readCommand_182 : decode cX6_readCommand 182 = .ok (.iconst 0, 1) := by decide +kernel
theorem dX6_readCommand_183 : decode cX6_readCommand 183 = .ok (.invokevirtual 131, 3) := by decide +kernel
theorem dX6_readCommand_186 : decode cX6_readCommand 186 = .ok (.ifCond .eq 7, 3) := by decide +kernel
theorem dX6_readCommand_189 : decode cX6_readCommand 189 = .ok (.iconst 1, 1) := by decide +kernel
theorem dX6_readCommand_190 : decode cX6_readCommand 190 = .ok (.goto 4, 3) := by decide +kernel
theorem dX6_readCommand_193 : decode cX6_readCommand 193 = .ok (.iconst 0, 1) := by decide +kernel
theorem dX6_readCommand_194 : decode cX6_readCommand 194 = .ok (.ireturn, 1) := by decide +kernel
theorem dX6_readCommand_195 : decode cX6_readCommand 195 = .ok (.aload_n 0, 1) := by decide +kernel
theorem dX6_readCommand_196 : decode cX6_readCommand 196 = .ok (.iconst 0, 1) := by decide +kernel
theorem dX6_readCommand_197 : decode cX6_readCommand 197 = .ok (.iconst 1, 1) := by decide +kernel
theorem dX6_readCommand_198 : decode cX6_readCommand 198 = .ok (.iconst 0, 1) := by decide +kernel
theorem dX6_readCommand_199 : decode cX6_readCommand 199 = .ok (.iconst 4, 1) := by decide +kernel
theorem dX6_readCommand_200 : decode cX6_readCommand 200 = .ok (.invokevirtual 118, 3) := by decide +kernel
theorem dX6_readCommand_203 : decode cX6_readCommand 203 = .ok (.istore_n 3, 1) := by decide +kernel
theorem dX6_readCommand_204 : decode cX6_readCommand 204 = .ok (.aload_n 0, 1) := by decide +kernel
theorem dX6_readCommand_205 : decode cX6_readCommand 205 = .ok (.iload_n 3, 1) := by decide +kernel
theorem dX6_readCommand_206 : decode cX6_readCommand 206 = .ok (.bipush 10, 2) := by decide +kernel
theorem dX6_readCommand_208 : decode cX6_readCommand 208 = .ok (.iconst 0, 1) := by decide +kernel
theorem dX6_readCommand_209 : decode cX6_readCommand 209 = .ok (.bipush 99, 2) := by decide +kernel
theorem dX6_readCommand_211 : decode cX6_readCommand 211 = .ok (.invokevirtual 118, 3) := by decide +kernel
theorem dX6_readCommand_214 : decode cX6_readCommand 214 = .ok (.istore 4, 2) := by decide +kernel
theorem dX6_readCommand_216 : decode cX6_readCommand 216 = .ok (.iload 4, 2) := by decide +kernel
theorem dX6_readCommand_218 : decode cX6_readCommand 218 = .ok (.iconst (-1), 1) := by decide +kernel
theorem dX6_readCommand_219 : decode cX6_readCommand 219 = .ok (.if_icmp .eq 41, 3) := by decide +kernel
theorem dX6_readCommand_222 : decode cX6_readCommand 222 = .ok (.aload_n 0, 1) := by decide +kernel
theorem dX6_readCommand_223 : decode cX6_readCommand 223 = .ok (.iload_n 3, 1) := by decide +kernel
theorem dX6_readCommand_224 : decode cX6_readCommand 224 = .ok (.iload 4, 2) := by decide +kernel
theorem dX6_readCommand_226 : decode cX6_readCommand 226 = .ok (.invokestatic 169, 3) := by decide +kernel
theorem dX6_readCommand_229 : decode cX6_readCommand 229 = .ok (.ifCond .eq 20, 3) := by decide +kernel
theorem dX6_readCommand_232 : decode cX6_readCommand 232 = .ok (.aload_n 1, 1) := by decide +kernel
theorem dX6_readCommand_233 : decode cX6_readCommand 233 = .ok (.bipush 11, 2) := by decide +kernel
theorem dX6_readCommand_235 : decode cX6_readCommand 235 = .ok (.iload_n 3, 1) := by decide +kernel
theorem dX6_readCommand_236 : decode cX6_readCommand 236 = .ok (.iadd, 1) := by decide +kernel
theorem dX6_readCommand_237 : decode cX6_readCommand 237 = .ok (.iload 4, 2) := by decide +kernel
theorem dX6_readCommand_239 : decode cX6_readCommand 239 = .ok (.invokestatic 95, 3) := by decide +kernel
theorem dX6_readCommand_242 : decode cX6_readCommand 242 = .ok (.ifCond .lt 7, 3) := by decide +kernel
theorem dX6_readCommand_245 : decode cX6_readCommand 245 = .ok (.iconst 1, 1) := by decide +kernel
theorem dX6_readCommand_246 : decode cX6_readCommand 246 = .ok (.goto 4, 3) := by decide +kernel
theorem dX6_readCommand_249 : decode cX6_readCommand 249 = .ok (.iconst 0, 1) := by decide +kernel
theorem dX6_readCommand_250 : decode cX6_readCommand 250 = .ok (.invokevirtual 131, 3) := by decide +kernel
theorem dX6_readCommand_253 : decode cX6_readCommand 253 = .ok (.ifCond .eq 7, 3) := by decide +kernel
theorem dX6_readCommand_256 : decode cX6_readCommand 256 = .ok (.iconst 1, 1) := by decide +kernel
theorem dX6_readCommand_257 : decode cX6_readCommand 257 = .ok (.goto 4, 3) := by decide +kernel
theorem dX6_readCommand_260 : decode cX6_readCommand 260 = .ok (.iconst 0, 1) := by decide +kernel
theorem dX6_readCommand_261 : decode cX6_readCommand 261 = .ok (.ireturn, 1) := by decide +kernel
theorem dX6_readCommand_262 : decode cX6_readCommand 262 = .ok (.aload_n 0, 1) := by decide +kernel
theorem dX6_readCommand_263 : decode cX6_readCommand 263 = .ok (.iconst 0, 1) := by decide +kernel
theorem dX6_readCommand_264 : decode cX6_readCommand 264 = .ok (.bipush 10, 2) := by decide +kernel
theorem dX6_readCommand_266 : decode cX6_readCommand 266 = .ok (.iconst 1, 1) := by decide +kernel
theorem dX6_readCommand_267 : decode cX6_readCommand 267 = .ok (.bipush 60, 2) := by decide +kernel
theorem dX6_readCommand_269 : decode cX6_readCommand 269 = .ok (.invokevirtual 118, 3) := by decide +kernel
theorem dX6_readCommand_272 : decode cX6_readCommand 272 = .ok (.istore_n 3, 1) := by decide +kernel
theorem dX6_readCommand_273 : decode cX6_readCommand 273 = .ok (.iload_n 3, 1) := by decide +kernel
theorem dX6_readCommand_274 : decode cX6_readCommand 274 = .ok (.iconst (-1), 1) := by decide +kernel
theorem dX6_readCommand_275 : decode cX6_readCommand 275 = .ok (.if_icmp .eq 27, 3) := by decide +kernel
theorem dX6_readCommand_278 : decode cX6_readCommand 278 = .ok (.aload_n 0, 1) := by decide +kernel
theorem dX6_readCommand_279 : decode cX6_readCommand 279 = .ok (.aload_n 1, 1) := by decide +kernel
theorem dX6_readCommand_280 : decode cX6_readCommand 280 = .ok (.iload_n 3, 1) := by decide +kernel
theorem dX6_readCommand_281 : decode cX6_readCommand 281 = .ok (.invokestatic 173, 3) := by decide +kernel
theorem dX6_readCommand_284 : decode cX6_readCommand 284 = .ok (.ifCond .lt 7, 3) := by decide +kernel
theorem dX6_readCommand_287 : decode cX6_readCommand 287 = .ok (.iconst 1, 1) := by decide +kernel
theorem dX6_readCommand_288 : decode cX6_readCommand 288 = .ok (.goto 4, 3) := by decide +kernel
theorem dX6_readCommand_291 : decode cX6_readCommand 291 = .ok (.iconst 0, 1) := by decide +kernel
theorem dX6_readCommand_292 : decode cX6_readCommand 292 = .ok (.invokevirtual 131, 3) := by decide +kernel
theorem dX6_readCommand_295 : decode cX6_readCommand 295 = .ok (.ifCond .eq 7, 3) := by decide +kernel
theorem dX6_readCommand_298 : decode cX6_readCommand 298 = .ok (.iconst 1, 1) := by decide +kernel
theorem dX6_readCommand_299 : decode cX6_readCommand 299 = .ok (.goto 4, 3) := by decide +kernel
theorem dX6_readCommand_302 : decode cX6_readCommand 302 = .ok (.iconst 0, 1) := by decide +kernel
theorem dX6_readCommand_303 : decode cX6_readCommand 303 = .ok (.ireturn, 1) := by decide +kernel
theorem dX6_readCommand_304 : decode cX6_readCommand 304 = .ok (.aload_n 0, 1) := by decide +kernel
theorem dX6_readCommand_305 : decode cX6_readCommand 305 = .ok (.dup, 1) := by decide +kernel
theorem dX6_readCommand_306 : decode cX6_readCommand 306 = .ok (.getfield 112, 3) := by decide +kernel
theorem dX6_readCommand_309 : decode cX6_readCommand 309 = .ok (.iconst 1, 1) := by decide +kernel
theorem dX6_readCommand_310 : decode cX6_readCommand 310 = .ok (.isub, 1) := by decide +kernel
theorem dX6_readCommand_311 : decode cX6_readCommand 311 = .ok (.putfield 112, 3) := by decide +kernel
theorem dX6_readCommand_314 : decode cX6_readCommand 314 = .ok (.iconst 0, 1) := by decide +kernel
theorem dX6_readCommand_315 : decode cX6_readCommand 315 = .ok (.ireturn, 1) := by decide +kernel
theorem dX6_readText_0 : decode cX6_readText 0 = .ok (.aload_n 1, 1) := by decide +kernel
theorem dX6_readText_1 : decode cX6_readText 1 = .ok (.invokestatic 29, 3) := by decide +kernel
theorem dX6_readText_4 : decode cX6_readText 4 = .ok (.aload_n 0, 1) := by decide +kernel
theorem dX6_readText_5 : decode cX6_readText 5 = .ok (.iconst 0, 1) := by decide +kernel
theorem dX6_readText_6 : decode cX6_readText 6 = .ok (.putfield 115, 3) := by decide +kernel
theorem dX6_readText_9 : decode cX6_readText 9 = .ok (.aload_n 0, 1) := by decide +kernel
theorem dX6_readText_10 : decode cX6_readText 10 = .ok (.iconst 0, 1) := by decide +kernel
theorem dX6_readText_11 : decode cX6_readText 11 = .ok (.putfield 112, 3) := by decide +kernel
theorem dX6_readText_14 : decode cX6_readText 14 = .ok (.aload_n 0, 1) := by decide +kernel
theorem dX6_readText_15 : decode cX6_readText 15 = .ok (.getfield 105, 3) := by decide +kernel
theorem dX6_readText_18 : decode cX6_readText 18 = .ok (.ifCond .eq 14, 3) := by decide +kernel
theorem dX6_readText_21 : decode cX6_readText 21 = .ok (.aload_n 0, 1) := by decide +kernel
theorem dX6_readText_22 : decode cX6_readText 22 = .ok (.getfield 7, 3) := by decide +kernel
theorem dX6_readText_25 : decode cX6_readText 25 = .ok (.iconst 0, 1) := by decide +kernel
theorem dX6_readText_26 : decode cX6_readText 26 = .ok (.iaload, 1) := by decide +kernel
theorem dX6_readText_27 : decode cX6_readText 27 = .ok (.bipush 66, 2) := by decide +kernel
theorem dX6_readText_29 : decode cX6_readText 29 = .ok (.if_icmp .eq 5, 3) := by decide +kernel
theorem dX6_readText_32 : decode cX6_readText 32 = .ok (.iconst 0, 1) := by decide +kernel
theorem dX6_readText_33 : decode cX6_readText 33 = .ok (.ireturn, 1) := by decide +kernel
theorem dX6_readText_34 : decode cX6_readText 34 = .ok (.aload_n 0, 1) := by decide +kernel
theorem dX6_readText_35 : decode cX6_readText 35 = .ok (.iconst 1, 1) := by decide +kernel
theorem dX6_readText_36 : decode cX6_readText 36 = .ok (.putfield 112, 3) := by decide +kernel
theorem dX6_readText_39 : decode cX6_readText 39 = .ok (.aload_n 0, 1) := by decide +kernel
theorem dX6_readText_40 : decode cX6_readText 40 = .ok (.getfield 112, 3) := by decide +kernel
theorem dX6_readText_43 : decode cX6_readText 43 = .ok (.aload_n 0, 1) := by decide +kernel
theorem dX6_readText_44 : decode cX6_readText 44 = .ok (.getfield 105, 3) := by decide +kernel
theorem dX6_readText_47 : decode cX6_readText 47 = .ok (.if_icmp .ge 16, 3) := by decide +kernel
theorem dX6_readText_50 : decode cX6_readText 50 = .ok (.aload_n 0, 1) := by decide +kernel
theorem dX6_readText_51 : decode cX6_readText 51 = .ok (.aload_n 1, 1) := by decide +kernel
theorem dX6_readText_52 : decode cX6_readText 52 = .ok (.invokevirtual 176, 3) := by decide +kernel
theorem dX6_readText_55 : decode cX6_readText 55 = .ok (.ifCond .ne (-16), 3) := by decide +kernel
theorem dX6_readText_58 : decode cX6_readText 58 = .ok (.aload_n 0, 1) := by decide +kernel
theorem dX6_readText_59 : decode cX6_readText 59 = .ok (.getfield 112, 3) := by decide +kernel
theorem dX6_readText_62 : decode cX6_readText 62 = .ok (.ireturn, 1) := by decide +kernel
theorem dX6_readText_63 : decode cX6_readText 63 = .ok (.iconst (-1), 1) := by decide +kernel
theorem dX6_readText_64 : decode cX6_readText 64 = .ok (.ireturn, 1) := by decide +kernel
theorem dX6_errorPosition_0 : decode cX6_errorPosition 0 = .ok (.aload_n 0, 1) := by decide +kernel
theorem dX6_errorPosition_1 : decode cX6_errorPosition 1 = .ok (.iconst 0, 1) := by decide +kernel
theorem dX6_errorPosition_2 : decode cX6_errorPosition 2 = .ok (.putfield 33, 3) := by decide +kernel
theorem dX6_errorPosition_5 : decode cX6_errorPosition 5 = .ok (.aload_n 0, 1) := by decide +kernel
theorem dX6_errorPosition_6 : decode cX6_errorPosition 6 = .ok (.aload_n 0, 1) := by decide +kernel
theorem dX6_errorPosition_7 : decode cX6_errorPosition 7 = .ok (.getfield 16, 3) := by decide +kernel
theorem dX6_errorPosition_10 : decode cX6_errorPosition 10 = .ok (.invokevirtual 179, 3) := by decide +kernel
theorem dX6_errorPosition_13 : decode cX6_errorPosition 13 = .ok (.ireturn, 1) := by decide +kernel
theorem dX6_load_0 : decode cX6_load 0 = .ok (.aload_n 0, 1) := by decide +kernel
theorem dX6_load_1 : decode cX6_load 1 = .ok (.aload_n 0, 1) := by decide +kernel
theorem dX6_load_2 : decode cX6_load 2 = .ok (.aload_n 0, 1) := by decide +kernel
theorem dX6_load_3 : decode cX6_load 3 = .ok (.getfield 16, 3) := by decide +kernel
theorem dX6_load_6 : decode cX6_load 6 = .ok (.invokevirtual 179, 3) := by decide +kernel
theorem dX6_load_9 : decode cX6_load 9 = .ok (.iconst (-1), 1) := by decide +kernel
theorem dX6_load_10 : decode cX6_load 10 = .ok (.if_icmp .ne 7, 3) := by decide +kernel
theorem dX6_load_13 : decode cX6_load 13 = .ok (.iconst 0, 1) := by decide +kernel
theorem dX6_load_14 : decode cX6_load 14 = .ok (.goto 4, 3) := by decide +kernel
theorem dX6_load_17 : decode cX6_load 17 = .ok (.iconst 1, 1) := by decide +kernel
theorem dX6_load_18 : decode cX6_load 18 = .ok (.invokevirtual 108, 3) := by decide +kernel
theorem dX6_load_21 : decode cX6_load 21 = .ok (.ifCond .eq 5, 3) := by decide +kernel
theorem dX6_load_24 : decode cX6_load 24 = .ok (.iconst 0, 1) := by decide +kernel
theorem dX6_load_25 : decode cX6_load 25 = .ok (.ireturn, 1) := by decide +kernel
theorem dX6_load_26 : decode cX6_load 26 = .ok (.aload_n 0, 1) := by decide +kernel
theorem dX6_load_27 : decode cX6_load 27 = .ok (.getfield 16, 3) := by decide +kernel
theorem dX6_load_30 : decode cX6_load 30 = .ok (.iconst 0, 1) := by decide +kernel
theorem dX6_load_31 : decode cX6_load 31 = .ok (.aload_n 0, 1) := by decide +kernel
theorem dX6_load_32 : decode cX6_load 32 = .ok (.getfield 13, 3) := by decide +kernel
theorem dX6_load_35 : decode cX6_load 35 = .ok (.iconst 0, 1) := by decide +kernel
theorem dX6_load_36 : decode cX6_load 36 = .ok (.invokestatic 183, 3) := by decide +kernel
theorem dX6_load_39 : decode cX6_load 39 = .ok (.aload_n 0, 1) := by decide +kernel
theorem dX6_load_40 : decode cX6_load 40 = .ok (.iconst 0, 1) := by decide +kernel
theorem dX6_load_41 : decode cX6_load 41 = .ok (.putfield 187, 3) := by decide +kernel
theorem dX6_load_44 : decode cX6_load 44 = .ok (.aload_n 0, 1) := by decide +kernel
theorem dX6_load_45 : decode cX6_load 45 = .ok (.getfield 25, 3) := by decide +kernel
theorem dX6_load_48 : decode cX6_load 48 = .ok (.iconst 0, 1) := by decide +kernel
theorem dX6_load_49 : decode cX6_load 49 = .ok (.iconst 0, 1) := by decide +kernel
theorem dX6_load_50 : decode cX6_load 50 = .ok (.bastore, 1) := by decide +kernel
theorem dX6_load_51 : decode cX6_load 51 = .ok (.aload_n 0, 1) := by decide +kernel
theorem dX6_load_52 : decode cX6_load 52 = .ok (.getfield 25, 3) := by decide +kernel
theorem dX6_load_55 : decode cX6_load 55 = .ok (.iconst 1, 1) := by decide +kernel
theorem dX6_load_56 : decode cX6_load 56 = .ok (.iconst 0, 1) := by decide +kernel
theorem dX6_load_57 : decode cX6_load 57 = .ok (.bastore, 1) := by decide +kernel
theorem dX6_load_58 : decode cX6_load 58 = .ok (.aload_n 0, 1) := by decide +kernel
theorem dX6_load_59 : decode cX6_load 59 = .ok (.getfield 115, 3) := by decide +kernel
theorem dX6_load_62 : decode cX6_load 62 = .ok (.ireturn, 1) := by decide +kernel
theorem dX6_about_0 : decode cX6_about 0 = .ok (.aload_n 0, 1) := by decide +kernel
theorem dX6_about_1 : decode cX6_about 1 = .ok (.iload_n 1, 1) := by decide +kernel
theorem dX6_about_2 : decode cX6_about 2 = .ok (.i2l, 1) := by decide +kernel
theorem dX6_about_3 : decode cX6_about 3 = .ok (.lconst 0, 1) := by decide +kernel
theorem dX6_about_4 : decode cX6_about 4 = .ok (.ldc2_w 190, 3) := by decide +kernel
theorem dX6_about_7 : decode cX6_about 7 = .ok (.invokestatic 37, 3) := by decide +kernel
theorem dX6_about_10 : decode cX6_about 10 = .ok (.ifCond .eq 7, 3) := by decide +kernel
theorem dX6_about_13 : decode cX6_about 13 = .ok (.iconst 0, 1) := by decide +kernel
theorem dX6_about_14 : decode cX6_about 14 = .ok (.goto 4, 3) := by decide +kernel
theorem dX6_about_17 : decode cX6_about 17 = .ok (.iconst 1, 1) := by decide +kernel
theorem dX6_about_18 : decode cX6_about 18 = .ok (.invokevirtual 108, 3) := by decide +kernel
theorem dX6_about_21 : decode cX6_about 21 = .ok (.ifCond .eq 5, 3) := by decide +kernel
theorem dX6_about_24 : decode cX6_about 24 = .ok (.iconst 0, 1) := by decide +kernel
theorem dX6_about_25 : decode cX6_about 25 = .ok (.ireturn, 1) := by decide +kernel
theorem dX6_about_26 : decode cX6_about 26 = .ok (.iload_n 1, 1) := by decide +kernel
theorem dX6_about_27 : decode cX6_about 27 = .ok (.tableswitch 72 6 12 #[41, 63, 63, 63, 63, 63, 49], 41) := by decide +kernel
theorem dX6_about_68 : decode cX6_about 68 = .ok (.aload_n 0, 1) := by decide +kernel
theorem dX6_about_69 : decode cX6_about 69 = .ok (.getfield 13, 3) := by decide +kernel
theorem dX6_about_72 : decode cX6_about 72 = .ok (.invokestatic 192, 3) := by decide +kernel
theorem dX6_about_75 : decode cX6_about 75 = .ok (.ireturn, 1) := by decide +kernel
theorem dX6_about_76 : decode cX6_about 76 = .ok (.aload_n 0, 1) := by decide +kernel
theorem dX6_about_77 : decode cX6_about 77 = .ok (.getfield 13, 3) := by decide +kernel
theorem dX6_about_80 : decode cX6_about 80 = .ok (.aload_n 0, 1) := by decide +kernel
theorem dX6_about_81 : decode cX6_about 81 = .ok (.getfield 13, 3) := by decide +kernel
theorem dX6_about_84 : decode cX6_about 84 = .ok (.iconst 1, 1) := by decide +kernel
theorem dX6_about_85 : decode cX6_about 85 = .ok (.iaload, 1) := by decide +kernel
theorem dX6_about_86 : decode cX6_about 86 = .ok (.invokestatic 64, 3) := by decide +kernel
theorem dX6_about_89 : decode cX6_about 89 = .ok (.ireturn, 1) := by decide +kernel
theorem dX6_about_90 : decode cX6_about 90 = .ok (.aload_n 0, 1) := by decide +kernel
theorem dX6_about_91 : decode cX6_about 91 = .ok (.getfield 13, 3) := by decide +kernel
theorem dX6_about_94 : decode cX6_about 94 = .ok (.iload_n 1, 1) := by decide +kernel
theorem dX6_about_95 : decode cX6_about 95 = .ok (.iconst 1, 1) := by decide +kernel
theorem dX6_about_96 : decode cX6_about 96 = .ok (.isub, 1) := by decide +kernel
theorem dX6_about_97 : decode cX6_about 97 = .ok (.iaload, 1) := by decide +kernel
theorem dX6_about_98 : decode cX6_about 98 = .ok (.ireturn, 1) := by decide +kernel
theorem dX6_about_99 : decode cX6_about 99 = .ok (.aload_n 0, 1) := by decide +kernel
theorem dX6_about_100 : decode cX6_about 100 = .ok (.getfield 13, 3) := by decide +kernel
theorem dX6_about_103 : decode cX6_about 103 = .ok (.iload_n 1, 1) := by decide +kernel
theorem dX6_about_104 : decode cX6_about 104 = .ok (.iaload, 1) := by decide +kernel
theorem dX6_about_105 : decode cX6_about 105 = .ok (.ireturn, 1) := by decide +kernel
theorem dX6_nextDue_0 : decode cX6_nextDue 0 = .ok (.aload_n 0, 1) := by decide +kernel
theorem dX6_nextDue_1 : decode cX6_nextDue 1 = .ok (.iconst 1, 1) := by decide +kernel
theorem dX6_nextDue_2 : decode cX6_nextDue 2 = .ok (.iaload, 1) := by decide +kernel
theorem dX6_nextDue_3 : decode cX6_nextDue 3 = .ok (.istore_n 2, 1) := by decide +kernel
theorem dX6_nextDue_4 : decode cX6_nextDue 4 = .ok (.iload_n 2, 1) := by decide +kernel
theorem dX6_nextDue_5 : decode cX6_nextDue 5 = .ok (.aload_n 0, 1) := by decide +kernel
theorem dX6_nextDue_6 : decode cX6_nextDue 6 = .ok (.iconst 1, 1) := by decide +kernel
theorem dX6_nextDue_7 : decode cX6_nextDue 7 = .ok (.iaload, 1) := by decide +kernel
theorem dX6_nextDue_8 : decode cX6_nextDue 8 = .ok (.sipush 200, 3) := by decide +kernel
theorem dX6_nextDue_11 : decode cX6_nextDue 11 = .ok (.iadd, 1) := by decide +kernel
theorem dX6_nextDue_12 : decode cX6_nextDue 12 = .ok (.if_icmp .gt 20, 3) := by decide +kernel
theorem dX6_nextDue_15 : decode cX6_nextDue 15 = .ok (.aload_n 0, 1) := by decide +kernel
theorem dX6_nextDue_16 : decode cX6_nextDue 16 = .ok (.iload_n 1, 1) := by decide +kernel
theorem dX6_nextDue_17 : decode cX6_nextDue 17 = .ok (.iload_n 2, 1) := by decide +kernel
theorem dX6_nextDue_18 : decode cX6_nextDue 18 = .ok (.invokestatic 61, 3) := by decide +kernel
theorem dX6_nextDue_21 : decode cX6_nextDue 21 = .ok (.ifCond .le 5, 3) := by decide +kernel
theorem dX6_nextDue_24 : decode cX6_nextDue 24 = .ok (.iload_n 2, 1) := by decide +kernel
theorem dX6_nextDue_25 : decode cX6_nextDue 25 = .ok (.ireturn, 1) := by decide +kernel
theorem dX6_nextDue_26 : decode cX6_nextDue 26 = .ok (.iinc 2 1, 3) := by decide +kernel
theorem dX6_nextDue_29 : decode cX6_nextDue 29 = .ok (.goto (-25), 3) := by decide +kernel
theorem dX6_nextDue_32 : decode cX6_nextDue 32 = .ok (.iconst (-1), 1) := by decide +kernel
theorem dX6_nextDue_33 : decode cX6_nextDue 33 = .ok (.ireturn, 1) := by decide +kernel
theorem dX6_customerOf_0 : decode cX6_customerOf 0 = .ok (.aload_n 0, 1) := by decide +kernel
theorem dX6_customerOf_1 : decode cX6_customerOf 1 = .ok (.aload_n 0, 1) := by decide +kernel
theorem dX6_customerOf_2 : decode cX6_customerOf 2 = .ok (.getfield 13, 3) := by decide +kernel
theorem dX6_customerOf_5 : decode cX6_customerOf 5 = .ok (.iload_n 1, 1) := by decide +kernel
theorem dX6_customerOf_6 : decode cX6_customerOf 6 = .ok (.invokestatic 139, 3) := by decide +kernel
theorem dX6_customerOf_9 : decode cX6_customerOf 9 = .ok (.ifCond .ne 7, 3) := by decide +kernel
theorem dX6_customerOf_12 : decode cX6_customerOf 12 = .ok (.iconst 1, 1) := by decide +kernel
theorem dX6_customerOf_13 : decode cX6_customerOf 13 = .ok (.goto 20, 3) := by decide +kernel
theorem dX6_customerOf_16 : decode cX6_customerOf 16 = .ok (.iload_n 2, 1) := by decide +kernel
theorem dX6_customerOf_17 : decode cX6_customerOf 17 = .ok (.i2l, 1) := by decide +kernel
theorem dX6_customerOf_18 : decode cX6_customerOf 18 = .ok (.lconst 0, 1) := by decide +kernel
theorem dX6_customerOf_19 : decode cX6_customerOf 19 = .ok (.ldc2_w 195, 3) := by decide +kernel
theorem dX6_customerOf_22 : decode cX6_customerOf 22 = .ok (.invokestatic 37, 3) := by decide +kernel
theorem dX6_customerOf_25 : decode cX6_customerOf 25 = .ok (.ifCond .eq 7, 3) := by decide +kernel
theorem dX6_customerOf_28 : decode cX6_customerOf 28 = .ok (.iconst 0, 1) := by decide +kernel
theorem dX6_customerOf_29 : decode cX6_customerOf 29 = .ok (.goto 4, 3) := by decide +kernel
theorem dX6_customerOf_32 : decode cX6_customerOf 32 = .ok (.iconst 2, 1) := by decide +kernel
theorem dX6_customerOf_33 : decode cX6_customerOf 33 = .ok (.invokevirtual 108, 3) := by decide +kernel
theorem dX6_customerOf_36 : decode cX6_customerOf 36 = .ok (.ifCond .eq 5, 3) := by decide +kernel
theorem dX6_customerOf_39 : decode cX6_customerOf 39 = .ok (.iconst 0, 1) := by decide +kernel
theorem dX6_customerOf_40 : decode cX6_customerOf 40 = .ok (.ireturn, 1) := by decide +kernel
theorem dX6_customerOf_41 : decode cX6_customerOf 41 = .ok (.iconst 0, 1) := by decide +kernel
theorem dX6_customerOf_42 : decode cX6_customerOf 42 = .ok (.istore_n 3, 1) := by decide +kernel
theorem dX6_customerOf_43 : decode cX6_customerOf 43 = .ok (.iconst 0, 1) := by decide +kernel
theorem dX6_customerOf_44 : decode cX6_customerOf 44 = .ok (.istore 4, 2) := by decide +kernel
theorem dX6_customerOf_46 : decode cX6_customerOf 46 = .ok (.iload 4, 2) := by decide +kernel
theorem dX6_customerOf_48 : decode cX6_customerOf 48 = .ok (.bipush 7, 2) := by decide +kernel
theorem dX6_customerOf_50 : decode cX6_customerOf 50 = .ok (.if_icmp .ge 24, 3) := by decide +kernel
theorem dX6_customerOf_53 : decode cX6_customerOf 53 = .ok (.iload_n 3, 1) := by decide +kernel
theorem dX6_customerOf_54 : decode cX6_customerOf 54 = .ok (.aload_n 0, 1) := by decide +kernel
theorem dX6_customerOf_55 : decode cX6_customerOf 55 = .ok (.getfield 13, 3) := by decide +kernel
theorem dX6_customerOf_58 : decode cX6_customerOf 58 = .ok (.iload_n 1, 1) := by decide +kernel
theorem dX6_customerOf_59 : decode cX6_customerOf 59 = .ok (.iconst 1, 1) := by decide +kernel
theorem dX6_customerOf_60 : decode cX6_customerOf 60 = .ok (.iload 4, 2) := by decide +kernel
theorem dX6_customerOf_62 : decode cX6_customerOf 62 = .ok (.iadd, 1) := by decide +kernel
theorem dX6_customerOf_63 : decode cX6_customerOf 63 = .ok (.invokestatic 53, 3) := by decide +kernel
theorem dX6_customerOf_66 : decode cX6_customerOf 66 = .ok (.iadd, 1) := by decide +kernel
theorem dX6_customerOf_67 : decode cX6_customerOf 67 = .ok (.istore_n 3, 1) := by decide +kernel
theorem dX6_customerOf_68 : decode cX6_customerOf 68 = .ok (.iinc 4 1, 3) := by decide +kernel
theorem dX6_customerOf_71 : decode cX6_customerOf 71 = .ok (.goto (-25), 3) := by decide +kernel
theorem dX6_customerOf_74 : decode cX6_customerOf 74 = .ok (.iload_n 2, 1) := by decide +kernel
theorem dX6_customerOf_75 : decode cX6_customerOf 75 = .ok (.lookupswitch 77 #[(0, 41), (1, 51), (9, 53), (10, 68)], 41) := by decide +kernel
theorem dX6_customerOf_116 : decode cX6_customerOf 116 = .ok (.aload_n 0, 1) := by decide +kernel
theorem dX6_customerOf_117 : decode cX6_customerOf 117 = .ok (.getfield 13, 3) := by decide +kernel
theorem dX6_customerOf_120 : decode cX6_customerOf 120 = .ok (.iload_n 1, 1) := by decide +kernel
theorem dX6_customerOf_121 : decode cX6_customerOf 121 = .ok (.iconst 0, 1) := by decide +kernel
theorem dX6_customerOf_122 : decode cX6_customerOf 122 = .ok (.invokestatic 53, 3) := by decide +kernel
theorem dX6_customerOf_125 : decode cX6_customerOf 125 = .ok (.ireturn, 1) := by decide +kernel
theorem dX6_customerOf_126 : decode cX6_customerOf 126 = .ok (.iload_n 3, 1) := by decide +kernel
theorem dX6_customerOf_127 : decode cX6_customerOf 127 = .ok (.ireturn, 1) := by decide +kernel
theorem dX6_customerOf_128 : decode cX6_customerOf 128 = .ok (.aload_n 0, 1) := by decide +kernel
theorem dX6_customerOf_129 : decode cX6_customerOf 129 = .ok (.getfield 13, 3) := by decide +kernel
theorem dX6_customerOf_132 : decode cX6_customerOf 132 = .ok (.iload_n 1, 1) := by decide +kernel
theorem dX6_customerOf_133 : decode cX6_customerOf 133 = .ok (.aload_n 0, 1) := by decide +kernel
theorem dX6_customerOf_134 : decode cX6_customerOf 134 = .ok (.getfield 13, 3) := by decide +kernel
theorem dX6_customerOf_137 : decode cX6_customerOf 137 = .ok (.iconst 1, 1) := by decide +kernel
theorem dX6_customerOf_138 : decode cX6_customerOf 138 = .ok (.iaload, 1) := by decide +kernel
theorem dX6_customerOf_139 : decode cX6_customerOf 139 = .ok (.invokestatic 61, 3) := by decide +kernel
theorem dX6_customerOf_142 : decode cX6_customerOf 142 = .ok (.ireturn, 1) := by decide +kernel
theorem dX6_customerOf_143 : decode cX6_customerOf 143 = .ok (.aload_n 0, 1) := by decide +kernel
theorem dX6_customerOf_144 : decode cX6_customerOf 144 = .ok (.getfield 13, 3) := by decide +kernel
theorem dX6_customerOf_147 : decode cX6_customerOf 147 = .ok (.iload_n 1, 1) := by decide +kernel
theorem dX6_customerOf_148 : decode cX6_customerOf 148 = .ok (.invokestatic 197, 3) := by decide +kernel
theorem dX6_customerOf_151 : decode cX6_customerOf 151 = .ok (.ireturn, 1) := by decide +kernel
theorem dX6_customerOf_152 : decode cX6_customerOf 152 = .ok (.aload_n 0, 1) := by decide +kernel
theorem dX6_customerOf_153 : decode cX6_customerOf 153 = .ok (.getfield 13, 3) := by decide +kernel
theorem dX6_customerOf_156 : decode cX6_customerOf 156 = .ok (.iload_n 1, 1) := by decide +kernel
theorem dX6_customerOf_157 : decode cX6_customerOf 157 = .ok (.iload_n 2, 1) := by decide +kernel
theorem dX6_customerOf_158 : decode cX6_customerOf 158 = .ok (.bipush 6, 2) := by decide +kernel
theorem dX6_customerOf_160 : decode cX6_customerOf 160 = .ok (.iadd, 1) := by decide +kernel
theorem dX6_customerOf_161 : decode cX6_customerOf 161 = .ok (.invokestatic 53, 3) := by decide +kernel
theorem dX6_customerOf_164 : decode cX6_customerOf 164 = .ok (.ireturn, 1) := by decide +kernel
theorem dX6_ordered_0 : decode cX6_ordered 0 = .ok (.aload_n 0, 1) := by decide +kernel
theorem dX6_ordered_1 : decode cX6_ordered 1 = .ok (.aload_n 0, 1) := by decide +kernel
theorem dX6_ordered_2 : decode cX6_ordered 2 = .ok (.getfield 13, 3) := by decide +kernel
theorem dX6_ordered_5 : decode cX6_ordered 5 = .ok (.iload_n 1, 1) := by decide +kernel
theorem dX6_ordered_6 : decode cX6_ordered 6 = .ok (.invokestatic 139, 3) := by decide +kernel
theorem dX6_ordered_9 : decode cX6_ordered 9 = .ok (.ifCond .eq 14, 3) := by decide +kernel
theorem dX6_ordered_12 : decode cX6_ordered 12 = .ok (.iload_n 2, 1) := by decide +kernel
theorem dX6_ordered_13 : decode cX6_ordered 13 = .ok (.invokestatic 200, 3) := by decide +kernel
theorem dX6_ordered_16 : decode cX6_ordered 16 = .ok (.ifCond .eq 7, 3) := by decide +kernel
theorem dX6_ordered_19 : decode cX6_ordered 19 = .ok (.iconst 0, 1) := by decide +kernel
theorem dX6_ordered_20 : decode cX6_ordered 20 = .ok (.goto 4, 3) := by decide +kernel
theorem dX6_ordered_23 : decode cX6_ordered 23 = .ok (.iconst 1, 1) := by decide +kernel
theorem dX6_ordered_24 : decode cX6_ordered 24 = .ok (.invokevirtual 108, 3) := by decide +kernel
theorem dX6_ordered_27 : decode cX6_ordered 27 = .ok (.ifCond .eq 5, 3) := by decide +kernel
theorem dX6_ordered_30 : decode cX6_ordered 30 = .ok (.iconst 0, 1) := by decide +kernel
theorem dX6_ordered_31 : decode cX6_ordered 31 = .ok (.ireturn, 1) := by decide +kernel
theorem dX6_ordered_32 : decode cX6_ordered 32 = .ok (.aload_n 0, 1) := by decide +kernel
theorem dX6_ordered_33 : decode cX6_ordered 33 = .ok (.getfield 13, 3) := by decide +kernel
theorem dX6_ordered_36 : decode cX6_ordered 36 = .ok (.iload_n 1, 1) := by decide +kernel
theorem dX6_ordered_37 : decode cX6_ordered 37 = .ok (.iconst 1, 1) := by decide +kernel
theorem dX6_ordered_38 : decode cX6_ordered 38 = .ok (.iload_n 2, 1) := by decide +kernel
theorem dX6_ordered_39 : decode cX6_ordered 39 = .ok (.iadd, 1) := by decide +kernel
theorem dX6_ordered_40 : decode cX6_ordered 40 = .ok (.invokestatic 53, 3) := by decide +kernel
theorem dX6_ordered_43 : decode cX6_ordered 43 = .ok (.ireturn, 1) := by decide +kernel
theorem dX6_away_0 : decode cX6_away 0 = .ok (.aload_n 0, 1) := by decide +kernel
theorem dX6_away_1 : decode cX6_away 1 = .ok (.aload_n 0, 1) := by decide +kernel
theorem dX6_away_2 : decode cX6_away 2 = .ok (.getfield 13, 3) := by decide +kernel
theorem dX6_away_5 : decode cX6_away 5 = .ok (.iload_n 1, 1) := by decide +kernel
theorem dX6_away_6 : decode cX6_away 6 = .ok (.invokestatic 139, 3) := by decide +kernel
theorem dX6_away_9 : decode cX6_away 9 = .ok (.ifCond .eq 15, 3) := by decide +kernel
theorem dX6_away_12 : decode cX6_away 12 = .ok (.iload_n 2, 1) := by decide +kernel
theorem dX6_away_13 : decode cX6_away 13 = .ok (.i2l, 1) := by decide +kernel
theorem dX6_away_14 : decode cX6_away 14 = .ok (.lconst 0, 1) := by decide +kernel
theorem dX6_away_15 : decode cX6_away 15 = .ok (.ldc2_w 203, 3) := by decide +kernel
theorem dX6_away_18 : decode cX6_away 18 = .ok (.invokestatic 37, 3) := by decide +kernel
theorem dX6_away_21 : decode cX6_away 21 = .ok (.ifCond .ne 7, 3) := by decide +kernel
theorem dX6_away_24 : decode cX6_away 24 = .ok (.iconst 1, 1) := by decide +kernel
theorem dX6_away_25 : decode cX6_away 25 = .ok (.goto 18, 3) := by decide +kernel
theorem dX6_away_28 : decode cX6_away 28 = .ok (.iload_n 3, 1) := by decide +kernel
theorem dX6_away_29 : decode cX6_away 29 = .ok (.i2l, 1) := by decide +kernel
theorem dX6_away_30 : decode cX6_away 30 = .ok (.lconst 0, 1) := by decide +kernel
theorem dX6_away_31 : decode cX6_away 31 = .ok (.lconst 1, 1) := by decide +kernel
theorem dX6_away_32 : decode cX6_away 32 = .ok (.invokestatic 37, 3) := by decide +kernel
theorem dX6_away_35 : decode cX6_away 35 = .ok (.ifCond .eq 7, 3) := by decide +kernel
theorem dX6_away_38 : decode cX6_away 38 = .ok (.iconst 0, 1) := by decide +kernel
theorem dX6_away_39 : decode cX6_away 39 = .ok (.goto 4, 3) := by decide +kernel
theorem dX6_away_42 : decode cX6_away 42 = .ok (.iconst 2, 1) := by decide +kernel
theorem dX6_away_43 : decode cX6_away 43 = .ok (.invokevirtual 108, 3) := by decide +kernel
theorem dX6_away_46 : decode cX6_away 46 = .ok (.ifCond .eq 5, 3) := by decide +kernel
theorem dX6_away_49 : decode cX6_away 49 = .ok (.iconst 0, 1) := by decide +kernel
theorem dX6_away_50 : decode cX6_away 50 = .ok (.ireturn, 1) := by decide +kernel
theorem dX6_away_51 : decode cX6_away 51 = .ok (.iload_n 2, 1) := by decide +kernel
theorem dX6_away_52 : decode cX6_away 52 = .ok (.aload_n 0, 1) := by decide +kernel
theorem dX6_away_53 : decode cX6_away 53 = .ok (.getfield 13, 3) := by decide +kernel
theorem dX6_away_56 : decode cX6_away 56 = .ok (.iload_n 1, 1) := by decide +kernel
theorem dX6_away_57 : decode cX6_away 57 = .ok (.bipush 14, 2) := by decide +kernel
theorem dX6_away_59 : decode cX6_away 59 = .ok (.invokestatic 53, 3) := by decide +kernel
theorem dX6_away_62 : decode cX6_away 62 = .ok (.if_icmp .ge 22, 3) := by decide +kernel
theorem dX6_away_65 : decode cX6_away 65 = .ok (.aload_n 0, 1) := by decide +kernel
theorem dX6_away_66 : decode cX6_away 66 = .ok (.getfield 13, 3) := by decide +kernel
theorem dX6_away_69 : decode cX6_away 69 = .ok (.iload_n 1, 1) := by decide +kernel
theorem dX6_away_70 : decode cX6_away 70 = .ok (.bipush 15, 2) := by decide +kernel
theorem dX6_away_72 : decode cX6_away 72 = .ok (.iconst 2, 1) := by decide +kernel
theorem dX6_away_73 : decode cX6_away 73 = .ok (.iload_n 2, 1) := by decide +kernel
theorem dX6_away_74 : decode cX6_away 74 = .ok (.imul, 1) := by decide +kernel
theorem dX6_away_75 : decode cX6_away 75 = .ok (.iadd, 1) := by decide +kernel
theorem dX6_away_76 : decode cX6_away 76 = .ok (.iload_n 3, 1) := by decide +kernel
theorem dX6_away_77 : decode cX6_away 77 = .ok (.iadd, 1) := by decide +kernel
theorem dX6_away_78 : decode cX6_away 78 = .ok (.invokestatic 53, 3) := by decide +kernel
theorem dX6_away_81 : decode cX6_away 81 = .ok (.goto 4, 3) := by decide +kernel
theorem dX6_away_84 : decode cX6_away 84 = .ok (.iconst (-1), 1) := by decide +kernel
theorem dX6_away_85 : decode cX6_away 85 = .ok (.ireturn, 1) := by decide +kernel
theorem dX6_isClosed_0 : decode cX6_isClosed 0 = .ok (.aload_n 0, 1) := by decide +kernel
theorem dX6_isClosed_1 : decode cX6_isClosed 1 = .ok (.iload_n 1, 1) := by decide +kernel
theorem dX6_isClosed_2 : decode cX6_isClosed 2 = .ok (.invokestatic 205, 3) := by decide +kernel
theorem dX6_isClosed_5 : decode cX6_isClosed 5 = .ok (.ifCond .eq 14, 3) := by decide +kernel
theorem dX6_isClosed_8 : decode cX6_isClosed 8 = .ok (.iload_n 2, 1) := by decide +kernel
theorem dX6_isClosed_9 : decode cX6_isClosed 9 = .ok (.invokestatic 200, 3) := by decide +kernel
theorem dX6_isClosed_12 : decode cX6_isClosed 12 = .ok (.ifCond .eq 7, 3) := by decide +kernel
theorem dX6_isClosed_15 : decode cX6_isClosed 15 = .ok (.iconst 0, 1) := by decide +kernel
theorem dX6_isClosed_16 : decode cX6_isClosed 16 = .ok (.goto 4, 3) := by decide +kernel
theorem dX6_isClosed_19 : decode cX6_isClosed 19 = .ok (.iconst 1, 1) := by decide +kernel
theorem dX6_isClosed_20 : decode cX6_isClosed 20 = .ok (.invokevirtual 108, 3) := by decide +kernel
theorem dX6_isClosed_23 : decode cX6_isClosed 23 = .ok (.ifCond .eq 5, 3) := by decide +kernel
theorem dX6_isClosed_26 : decode cX6_isClosed 26 = .ok (.iconst 0, 1) := by decide +kernel
theorem dX6_isClosed_27 : decode cX6_isClosed 27 = .ok (.ireturn, 1) := by decide +kernel
theorem dX6_isClosed_28 : decode cX6_isClosed 28 = .ok (.aload_n 0, 1) := by decide +kernel
theorem dX6_isClosed_29 : decode cX6_isClosed 29 = .ok (.getfield 13, 3) := by decide +kernel
theorem dX6_isClosed_32 : decode cX6_isClosed 32 = .ok (.bipush 20, 2) := by decide +kernel
theorem dX6_isClosed_34 : decode cX6_isClosed 34 = .ok (.bipush 7, 2) := by decide +kernel
theorem dX6_isClosed_36 : decode cX6_isClosed 36 = .ok (.iload_n 1, 1) := by decide +kernel
theorem dX6_isClosed_37 : decode cX6_isClosed 37 = .ok (.imul, 1) := by decide +kernel
theorem dX6_isClosed_38 : decode cX6_isClosed 38 = .ok (.iadd, 1) := by decide +kernel
theorem dX6_isClosed_39 : decode cX6_isClosed 39 = .ok (.iload_n 2, 1) := by decide +kernel
theorem dX6_isClosed_40 : decode cX6_isClosed 40 = .ok (.iadd, 1) := by decide +kernel
theorem dX6_isClosed_41 : decode cX6_isClosed 41 = .ok (.iaload, 1) := by decide +kernel
theorem dX6_isClosed_42 : decode cX6_isClosed 42 = .ok (.ireturn, 1) := by decide +kernel
theorem dX6_round_0 : decode cX6_round 0 = .ok (.aload_n 0, 1) := by decide +kernel
theorem dX6_round_1 : decode cX6_round 1 = .ok (.iload_n 1, 1) := by decide +kernel
theorem dX6_round_2 : decode cX6_round 2 = .ok (.invokestatic 205, 3) := by decide +kernel
theorem dX6_round_5 : decode cX6_round 5 = .ok (.ifCond .eq 7, 3) := by decide +kernel
theorem dX6_round_8 : decode cX6_round 8 = .ok (.iconst 0, 1) := by decide +kernel
theorem dX6_round_9 : decode cX6_round 9 = .ok (.goto 4, 3) := by decide +kernel
theorem dX6_round_12 : decode cX6_round 12 = .ok (.iconst 1, 1) := by decide +kernel
theorem dX6_round_13 : decode cX6_round 13 = .ok (.invokevirtual 108, 3) := by decide +kernel
theorem dX6_round_16 : decode cX6_round 16 = .ok (.ifCond .eq 5, 3) := by decide +kernel
theorem dX6_round_19 : decode cX6_round 19 = .ok (.iconst 0, 1) := by decide +kernel
theorem dX6_round_20 : decode cX6_round 20 = .ok (.ireturn, 1) := by decide +kernel
theorem dX6_round_21 : decode cX6_round 21 = .ok (.aload_n 0, 1) := by decide +kernel
theorem dX6_round_22 : decode cX6_round 22 = .ok (.getfield 13, 3) := by decide +kernel
theorem dX6_round_25 : decode cX6_round 25 = .ok (.bipush 16, 2) := by decide +kernel
theorem dX6_round_27 : decode cX6_round 27 = .ok (.iload_n 1, 1) := by decide +kernel
theorem dX6_round_28 : decode cX6_round 28 = .ok (.iadd, 1) := by decide +kernel
theorem dX6_round_29 : decode cX6_round 29 = .ok (.iaload, 1) := by decide +kernel
theorem dX6_round_30 : decode cX6_round 30 = .ok (.ireturn, 1) := by decide +kernel
theorem dX6_setting_0 : decode cX6_setting 0 = .ok (.aload_n 0, 1) := by decide +kernel
theorem dX6_setting_1 : decode cX6_setting 1 = .ok (.iload_n 1, 1) := by decide +kernel
theorem dX6_setting_2 : decode cX6_setting 2 = .ok (.i2l, 1) := by decide +kernel
theorem dX6_setting_3 : decode cX6_setting 3 = .ok (.lconst 0, 1) := by decide +kernel
theorem dX6_setting_4 : decode cX6_setting 4 = .ok (.ldc2_w 208, 3) := by decide +kernel
theorem dX6_setting_7 : decode cX6_setting 7 = .ok (.invokestatic 37, 3) := by decide +kernel
theorem dX6_setting_10 : decode cX6_setting 10 = .ok (.ifCond .eq 7, 3) := by decide +kernel
theorem dX6_setting_13 : decode cX6_setting 13 = .ok (.iconst 0, 1) := by decide +kernel
theorem dX6_setting_14 : decode cX6_setting 14 = .ok (.goto 4, 3) := by decide +kernel
theorem dX6_setting_17 : decode cX6_setting 17 = .ok (.iconst 1, 1) := by decide +kernel
theorem dX6_setting_18 : decode cX6_setting 18 = .ok (.invokevirtual 108, 3) := by decide +kernel
theorem dX6_setting_21 : decode cX6_setting 21 = .ok (.ifCond .eq 5, 3) := by decide +kernel
theorem dX6_setting_24 : decode cX6_setting 24 = .ok (.iconst 0, 1) := by decide +kernel
theorem dX6_setting_25 : decode cX6_setting 25 = .ok (.ireturn, 1) := by decide +kernel
theorem dX6_setting_26 : decode cX6_setting 26 = .ok (.aload_n 0, 1) := by decide +kernel
theorem dX6_setting_27 : decode cX6_setting 27 = .ok (.getfield 13, 3) := by decide +kernel
theorem dX6_setting_30 : decode cX6_setting 30 = .ok (.bipush 11, 2) := by decide +kernel
theorem dX6_setting_32 : decode cX6_setting 32 = .ok (.iload_n 1, 1) := by decide +kernel
theorem dX6_setting_33 : decode cX6_setting 33 = .ok (.iadd, 1) := by decide +kernel
theorem dX6_setting_34 : decode cX6_setting 34 = .ok (.iaload, 1) := by decide +kernel
theorem dX6_setting_35 : decode cX6_setting 35 = .ok (.ireturn, 1) := by decide +kernel
theorem dX6_due_0 : decode cX6_due 0 = .ok (.aload_n 0, 1) := by decide +kernel
theorem dX6_due_1 : decode cX6_due 1 = .ok (.aload_n 0, 1) := by decide +kernel
theorem dX6_due_2 : decode cX6_due 2 = .ok (.getfield 13, 3) := by decide +kernel
theorem dX6_due_5 : decode cX6_due 5 = .ok (.iload_n 1, 1) := by decide +kernel
theorem dX6_due_6 : decode cX6_due 6 = .ok (.invokestatic 139, 3) := by decide +kernel
theorem dX6_due_9 : decode cX6_due 9 = .ok (.ifCond .ne 7, 3) := by decide +kernel
theorem dX6_due_12 : decode cX6_due 12 = .ok (.iconst 1, 1) := by decide +kernel
theorem dX6_due_13 : decode cX6_due 13 = .ok (.goto 43, 3) := by decide +kernel
theorem dX6_due_16 : decode cX6_due 16 = .ok (.iload_n 2, 1) := by decide +kernel
theorem dX6_due_17 : decode cX6_due 17 = .ok (.i2l, 1) := by decide +kernel
theorem dX6_due_18 : decode cX6_due 18 = .ok (.lconst 0, 1) := by decide +kernel
theorem dX6_due_19 : decode cX6_due 19 = .ok (.ldc2_w 98, 3) := by decide +kernel
theorem dX6_due_22 : decode cX6_due 22 = .ok (.invokestatic 37, 3) := by decide +kernel
theorem dX6_due_25 : decode cX6_due 25 = .ok (.ifCond .eq 30, 3) := by decide +kernel
theorem dX6_due_28 : decode cX6_due 28 = .ok (.iload_n 3, 1) := by decide +kernel
theorem dX6_due_29 : decode cX6_due 29 = .ok (.i2l, 1) := by decide +kernel
theorem dX6_due_30 : decode cX6_due 30 = .ok (.lconst 0, 1) := by decide +kernel
theorem dX6_due_31 : decode cX6_due 31 = .ok (.ldc2_w 210, 3) := by decide +kernel
theorem dX6_due_34 : decode cX6_due 34 = .ok (.invokestatic 37, 3) := by decide +kernel
theorem dX6_due_37 : decode cX6_due 37 = .ok (.ifCond .eq 18, 3) := by decide +kernel
theorem dX6_due_40 : decode cX6_due 40 = .ok (.iload 4, 2) := by decide +kernel
theorem dX6_due_42 : decode cX6_due 42 = .ok (.i2l, 1) := by decide +kernel
theorem dX6_due_43 : decode cX6_due 43 = .ok (.lconst 0, 1) := by decide +kernel
theorem dX6_due_44 : decode cX6_due 44 = .ok (.lconst 1, 1) := by decide +kernel
theorem dX6_due_45 : decode cX6_due 45 = .ok (.invokestatic 37, 3) := by decide +kernel
theorem dX6_due_48 : decode cX6_due 48 = .ok (.ifCond .eq 7, 3) := by decide +kernel
theorem dX6_due_51 : decode cX6_due 51 = .ok (.iconst 0, 1) := by decide +kernel
theorem dX6_due_52 : decode cX6_due 52 = .ok (.goto 4, 3) := by decide +kernel
theorem dX6_due_55 : decode cX6_due 55 = .ok (.iconst 2, 1) := by decide +kernel
theorem dX6_due_56 : decode cX6_due 56 = .ok (.invokevirtual 108, 3) := by decide +kernel
theorem dX6_due_59 : decode cX6_due 59 = .ok (.ifCond .eq 5, 3) := by decide +kernel
theorem dX6_due_62 : decode cX6_due 62 = .ok (.iconst 0, 1) := by decide +kernel
theorem dX6_due_63 : decode cX6_due 63 = .ok (.ireturn, 1) := by decide +kernel
theorem dX6_due_64 : decode cX6_due 64 = .ok (.iconst 0, 1) := by decide +kernel
theorem dX6_due_65 : decode cX6_due 65 = .ok (.istore 5, 2) := by decide +kernel
theorem dX6_due_67 : decode cX6_due 67 = .ok (.iload_n 2, 1) := by decide +kernel
theorem dX6_due_68 : decode cX6_due 68 = .ok (.istore 6, 2) := by decide +kernel
theorem dX6_due_70 : decode cX6_due 70 = .ok (.iload 6, 2) := by decide +kernel
theorem dX6_due_72 : decode cX6_due 72 = .ok (.iload_n 2, 1) := by decide +kernel
theorem dX6_due_73 : decode cX6_due 73 = .ok (.iload_n 3, 1) := by decide +kernel
theorem dX6_due_74 : decode cX6_due 74 = .ok (.iadd, 1) := by decide +kernel
theorem dX6_due_75 : decode cX6_due 75 = .ok (.if_icmp .ge 24, 3) := by decide +kernel
theorem dX6_due_78 : decode cX6_due 78 = .ok (.iload 5, 2) := by decide +kernel
theorem dX6_due_80 : decode cX6_due 80 = .ok (.aload_n 0, 1) := by decide +kernel
theorem dX6_due_81 : decode cX6_due 81 = .ok (.getfield 13, 3) := by decide +kernel
theorem dX6_due_84 : decode cX6_due 84 = .ok (.iload_n 1, 1) := by decide +kernel
theorem dX6_due_85 : decode cX6_due 85 = .ok (.iload 6, 2) := by decide +kernel
theorem dX6_due_87 : decode cX6_due 87 = .ok (.invokestatic 61, 3) := by decide +kernel
theorem dX6_due_90 : decode cX6_due 90 = .ok (.iadd, 1) := by decide +kernel
theorem dX6_due_91 : decode cX6_due 91 = .ok (.istore 5, 2) := by decide +kernel
theorem dX6_due_93 : decode cX6_due 93 = .ok (.iinc 6 1, 3) := by decide +kernel
theorem dX6_due_96 : decode cX6_due 96 = .ok (.goto (-26), 3) := by decide +kernel
theorem dX6_due_99 : decode cX6_due 99 = .ok (.iload 5, 2) := by decide +kernel
theorem dX6_due_101 : decode cX6_due 101 = .ok (.ireturn, 1) := by decide +kernel
theorem dX6_remember_0 : decode cX6_remember 0 = .ok (.aload_n 0, 1) := by decide +kernel
theorem dX6_remember_1 : decode cX6_remember 1 = .ok (.getfield 187, 3) := by decide +kernel
theorem dX6_remember_4 : decode cX6_remember 4 = .ok (.bipush 14, 2) := by decide +kernel
theorem dX6_remember_6 : decode cX6_remember 6 = .ok (.if_icmp .ne 44, 3) := by decide +kernel
theorem dX6_remember_9 : decode cX6_remember 9 = .ok (.iconst 0, 1) := by decide +kernel
theorem dX6_remember_10 : decode cX6_remember 10 = .ok (.istore_n 1, 1) := by decide +kernel
theorem dX6_remember_11 : decode cX6_remember 11 = .ok (.iload_n 1, 1) := by decide +kernel
theorem dX6_remember_12 : decode cX6_remember 12 = .ok (.sipush 3354, 3) := by decide +kernel
theorem dX6_remember_15 : decode cX6_remember 15 = .ok (.if_icmp .ge 25, 3) := by decide +kernel
theorem dX6_remember_18 : decode cX6_remember 18 = .ok (.aload_n 0, 1) := by decide +kernel
theorem dX6_remember_19 : decode cX6_remember 19 = .ok (.getfield 19, 3) := by decide +kernel
theorem dX6_remember_22 : decode cX6_remember 22 = .ok (.iload_n 1, 1) := by decide +kernel
theorem dX6_remember_23 : decode cX6_remember 23 = .ok (.aload_n 0, 1) := by decide +kernel
theorem dX6_remember_24 : decode cX6_remember 24 = .ok (.getfield 19, 3) := by decide +kernel
theorem dX6_remember_27 : decode cX6_remember 27 = .ok (.iload_n 1, 1) := by decide +kernel
theorem dX6_remember_28 : decode cX6_remember 28 = .ok (.sipush 258, 3) := by decide +kernel
theorem dX6_remember_31 : decode cX6_remember 31 = .ok (.iadd, 1) := by decide +kernel
theorem dX6_remember_32 : decode cX6_remember 32 = .ok (.iaload, 1) := by decide +kernel
theorem dX6_remember_33 : decode cX6_remember 33 = .ok (.iastore, 1) := by decide +kernel
theorem dX6_remember_34 : decode cX6_remember 34 = .ok (.iinc 1 1, 3) := by decide +kernel
theorem dX6_remember_37 : decode cX6_remember 37 = .ok (.goto (-26), 3) := by decide +kernel
theorem dX6_remember_40 : decode cX6_remember 40 = .ok (.aload_n 0, 1) := by decide +kernel
theorem dX6_remember_41 : decode cX6_remember 41 = .ok (.dup, 1) := by decide +kernel
theorem dX6_remember_42 : decode cX6_remember 42 = .ok (.getfield 187, 3) := by decide +kernel
theorem dX6_remember_45 : decode cX6_remember 45 = .ok (.iconst 1, 1) := by decide +kernel
theorem dX6_remember_46 : decode cX6_remember 46 = .ok (.isub, 1) := by decide +kernel
theorem dX6_remember_47 : decode cX6_remember 47 = .ok (.putfield 187, 3) := by decide +kernel
theorem dX6_remember_50 : decode cX6_remember 50 = .ok (.aload_n 0, 1) := by decide +kernel
theorem dX6_remember_51 : decode cX6_remember 51 = .ok (.getfield 13, 3) := by decide +kernel
theorem dX6_remember_54 : decode cX6_remember 54 = .ok (.iconst 0, 1) := by decide +kernel
theorem dX6_remember_55 : decode cX6_remember 55 = .ok (.aload_n 0, 1) := by decide +kernel
theorem dX6_remember_56 : decode cX6_remember 56 = .ok (.getfield 19, 3) := by decide +kernel
theorem dX6_remember_59 : decode cX6_remember 59 = .ok (.sipush 258, 3) := by decide +kernel
theorem dX6_remember_62 : decode cX6_remember 62 = .ok (.aload_n 0, 1) := by decide +kernel
theorem dX6_remember_63 : decode cX6_remember 63 = .ok (.getfield 187, 3) := by decide +kernel
theorem dX6_remember_66 : decode cX6_remember 66 = .ok (.imul, 1) := by decide +kernel
theorem dX6_remember_67 : decode cX6_remember 67 = .ok (.invokestatic 183, 3) := by decide +kernel
theorem dX6_remember_70 : decode cX6_remember 70 = .ok (.aload_n 0, 1) := by decide +kernel
theorem dX6_remember_71 : decode cX6_remember 71 = .ok (.dup, 1) := by decide +kernel
theorem dX6_remember_72 : decode cX6_remember 72 = .ok (.getfield 187, 3) := by decide +kernel
theorem dX6_remember_75 : decode cX6_remember 75 = .ok (.iconst 1, 1) := by decide +kernel
theorem dX6_remember_76 : decode cX6_remember 76 = .ok (.iadd, 1) := by decide +kernel
theorem dX6_remember_77 : decode cX6_remember 77 = .ok (.putfield 187, 3) := by decide +kernel
theorem dX6_remember_80 : decode cX6_remember 80 = .ok (.return_, 1) := by decide +kernel
theorem dX6_customer_0 : decode cX6_customer 0 = .ok (.aload_n 0, 1) := by decide +kernel
theorem dX6_customer_1 : decode cX6_customer 1 = .ok (.iload_n 1, 1) := by decide +kernel
theorem dX6_customer_2 : decode cX6_customer 2 = .ok (.invokestatic 205, 3) := by decide +kernel
theorem dX6_customer_5 : decode cX6_customer 5 = .ok (.ifCond .ne 7, 3) := by decide +kernel
theorem dX6_customer_8 : decode cX6_customer 8 = .ok (.iconst 1, 1) := by decide +kernel
theorem dX6_customer_9 : decode cX6_customer 9 = .ok (.goto 35, 3) := by decide +kernel
theorem dX6_customer_12 : decode cX6_customer 12 = .ok (.iload_n 2, 1) := by decide +kernel
theorem dX6_customer_13 : decode cX6_customer 13 = .ok (.i2l, 1) := by decide +kernel
theorem dX6_customer_14 : decode cX6_customer 14 = .ok (.lconst 0, 1) := by decide +kernel
theorem dX6_customer_15 : decode cX6_customer 15 = .ok (.ldc2_w 212, 3) := by decide +kernel
theorem dX6_customer_18 : decode cX6_customer 18 = .ok (.invokestatic 37, 3) := by decide +kernel
theorem dX6_customer_21 : decode cX6_customer 21 = .ok (.ifCond .ne 7, 3) := by decide +kernel
theorem dX6_customer_24 : decode cX6_customer 24 = .ok (.iconst 2, 1) := by decide +kernel
theorem dX6_customer_25 : decode cX6_customer 25 = .ok (.goto 19, 3) := by decide +kernel
theorem dX6_customer_28 : decode cX6_customer 28 = .ok (.aload_n 0, 1) := by decide +kernel
theorem dX6_customer_29 : decode cX6_customer 29 = .ok (.getfield 13, 3) := by decide +kernel
theorem dX6_customer_32 : decode cX6_customer 32 = .ok (.iconst 0, 1) := by decide +kernel
theorem dX6_customer_33 : decode cX6_customer 33 = .ok (.iaload, 1) := by decide +kernel
theorem dX6_customer_34 : decode cX6_customer 34 = .ok (.bipush 10, 2) := by decide +kernel
theorem dX6_customer_36 : decode cX6_customer 36 = .ok (.if_icmp .ge 7, 3) := by decide +kernel
theorem dX6_customer_39 : decode cX6_customer 39 = .ok (.iconst 0, 1) := by decide +kernel
theorem dX6_customer_40 : decode cX6_customer 40 = .ok (.goto 4, 3) := by decide +kernel
theorem dX6_customer_43 : decode cX6_customer 43 = .ok (.iconst 3, 1) := by decide +kernel
theorem dX6_customer_44 : decode cX6_customer 44 = .ok (.invokevirtual 108, 3) := by decide +kernel
theorem dX6_customer_47 : decode cX6_customer 47 = .ok (.ifCond .eq 5, 3) := by decide +kernel
theorem dX6_customer_50 : decode cX6_customer 50 = .ok (.iconst 0, 1) := by decide +kernel
theorem dX6_customer_51 : decode cX6_customer 51 = .ok (.ireturn, 1) := by decide +kernel
theorem dX6_customer_52 : decode cX6_customer 52 = .ok (.aload_n 0, 1) := by decide +kernel
theorem dX6_customer_53 : decode cX6_customer 53 = .ok (.invokevirtual 214, 3) := by decide +kernel
theorem dX6_customer_56 : decode cX6_customer 56 = .ok (.aload_n 0, 1) := by decide +kernel
theorem dX6_customer_57 : decode cX6_customer 57 = .ok (.getfield 13, 3) := by decide +kernel
theorem dX6_customer_60 : decode cX6_customer 60 = .ok (.iload_n 1, 1) := by decide +kernel
theorem dX6_customer_61 : decode cX6_customer 61 = .ok (.iload_n 2, 1) := by decide +kernel
theorem dX6_customer_62 : decode cX6_customer 62 = .ok (.invokestatic 128, 3) := by decide +kernel
theorem dX6_customer_65 : decode cX6_customer 65 = .ok (.ireturn, 1) := by decide +kernel
theorem dX6_change_0 : decode cX6_change 0 = .ok (.aload_n 0, 1) := by decide +kernel
theorem dX6_change_1 : decode cX6_change 1 = .ok (.aload_n 0, 1) := by decide +kernel
theorem dX6_change_2 : decode cX6_change 2 = .ok (.getfield 13, 3) := by decide +kernel
theorem dX6_change_5 : decode cX6_change 5 = .ok (.iload_n 1, 1) := by decide +kernel
theorem dX6_change_6 : decode cX6_change 6 = .ok (.invokestatic 139, 3) := by decide +kernel
theorem dX6_change_9 : decode cX6_change 9 = .ok (.ifCond .eq 10, 3) := by decide +kernel
theorem dX6_change_12 : decode cX6_change 12 = .ok (.iload_n 2, 1) := by decide +kernel
theorem dX6_change_13 : decode cX6_change 13 = .ok (.invokestatic 200, 3) := by decide +kernel
theorem dX6_change_16 : decode cX6_change 16 = .ok (.ifCond .ne 7, 3) := by decide +kernel
theorem dX6_change_19 : decode cX6_change 19 = .ok (.iconst 1, 1) := by decide +kernel
theorem dX6_change_20 : decode cX6_change 20 = .ok (.goto 20, 3) := by decide +kernel
theorem dX6_change_23 : decode cX6_change 23 = .ok (.iload_n 3, 1) := by decide +kernel
theorem dX6_change_24 : decode cX6_change 24 = .ok (.i2l, 1) := by decide +kernel
theorem dX6_change_25 : decode cX6_change 25 = .ok (.lconst 0, 1) := by decide +kernel
theorem dX6_change_26 : decode cX6_change 26 = .ok (.ldc2_w 47, 3) := by decide +kernel
theorem dX6_change_29 : decode cX6_change 29 = .ok (.invokestatic 37, 3) := by decide +kernel
theorem dX6_change_32 : decode cX6_change 32 = .ok (.ifCond .eq 7, 3) := by decide +kernel
theorem dX6_change_35 : decode cX6_change 35 = .ok (.iconst 0, 1) := by decide +kernel
theorem dX6_change_36 : decode cX6_change 36 = .ok (.goto 4, 3) := by decide +kernel
theorem dX6_change_39 : decode cX6_change 39 = .ok (.iconst 2, 1) := by decide +kernel
theorem dX6_change_40 : decode cX6_change 40 = .ok (.invokevirtual 108, 3) := by decide +kernel
theorem dX6_change_43 : decode cX6_change 43 = .ok (.ifCond .eq 5, 3) := by decide +kernel
theorem dX6_change_46 : decode cX6_change 46 = .ok (.iconst 0, 1) := by decide +kernel
theorem dX6_change_47 : decode cX6_change 47 = .ok (.ireturn, 1) := by decide +kernel
theorem dX6_change_48 : decode cX6_change 48 = .ok (.aload_n 0, 1) := by decide +kernel
theorem dX6_change_49 : decode cX6_change 49 = .ok (.invokevirtual 214, 3) := by decide +kernel
theorem dX6_change_52 : decode cX6_change 52 = .ok (.aload_n 0, 1) := by decide +kernel
theorem dX6_change_53 : decode cX6_change 53 = .ok (.getfield 13, 3) := by decide +kernel
theorem dX6_change_56 : decode cX6_change 56 = .ok (.iload_n 1, 1) := by decide +kernel
theorem dX6_change_57 : decode cX6_change 57 = .ok (.iload_n 2, 1) := by decide +kernel
theorem dX6_change_58 : decode cX6_change 58 = .ok (.iload_n 3, 1) := by decide +kernel
theorem dX6_change_59 : decode cX6_change 59 = .ok (.invokestatic 143, 3) := by decide +kernel
theorem dX6_change_62 : decode cX6_change 62 = .ok (.ireturn, 1) := by decide +kernel
theorem dX6_holiday_0 : decode cX6_holiday 0 = .ok (.aload_n 0, 1) := by decide +kernel
theorem dX6_holiday_1 : decode cX6_holiday 1 = .ok (.aload_n 0, 1) := by decide +kernel
theorem dX6_holiday_2 : decode cX6_holiday 2 = .ok (.getfield 13, 3) := by decide +kernel
theorem dX6_holiday_5 : decode cX6_holiday 5 = .ok (.iload_n 1, 1) := by decide +kernel
theorem dX6_holiday_6 : decode cX6_holiday 6 = .ok (.invokestatic 139, 3) := by decide +kernel
theorem dX6_holiday_9 : decode cX6_holiday 9 = .ok (.ifCond .ne 7, 3) := by decide +kernel
theorem dX6_holiday_12 : decode cX6_holiday 12 = .ok (.iconst 1, 1) := by decide +kernel
theorem dX6_holiday_13 : decode cX6_holiday 13 = .ok (.goto 34, 3) := by decide +kernel
theorem dX6_holiday_16 : decode cX6_holiday 16 = .ok (.iload_n 2, 1) := by decide +kernel
theorem dX6_holiday_17 : decode cX6_holiday 17 = .ok (.iload_n 3, 1) := by decide +kernel
theorem dX6_holiday_18 : decode cX6_holiday 18 = .ok (.invokestatic 217, 3) := by decide +kernel
theorem dX6_holiday_21 : decode cX6_holiday 21 = .ok (.ifCond .ne 7, 3) := by decide +kernel
theorem dX6_holiday_24 : decode cX6_holiday 24 = .ok (.iconst 2, 1) := by decide +kernel
theorem dX6_holiday_25 : decode cX6_holiday 25 = .ok (.goto 22, 3) := by decide +kernel
theorem dX6_holiday_28 : decode cX6_holiday 28 = .ok (.aload_n 0, 1) := by decide +kernel
theorem dX6_holiday_29 : decode cX6_holiday 29 = .ok (.getfield 13, 3) := by decide +kernel
theorem dX6_holiday_32 : decode cX6_holiday 32 = .ok (.iload_n 1, 1) := by decide +kernel
theorem dX6_holiday_33 : decode cX6_holiday 33 = .ok (.bipush 14, 2) := by decide +kernel
theorem dX6_holiday_35 : decode cX6_holiday 35 = .ok (.invokestatic 53, 3) := by decide +kernel
theorem dX6_holiday_38 : decode cX6_holiday 38 = .ok (.iconst 3, 1) := by decide +kernel
theorem dX6_holiday_39 : decode cX6_holiday 39 = .ok (.if_icmp .ge 7, 3) := by decide +kernel
theorem dX6_holiday_42 : decode cX6_holiday 42 = .ok (.iconst 0, 1) := by decide +kernel
theorem dX6_holiday_43 : decode cX6_holiday 43 = .ok (.goto 4, 3) := by decide +kernel
theorem dX6_holiday_46 : decode cX6_holiday 46 = .ok (.iconst 3, 1) := by decide +kernel
theorem dX6_holiday_47 : decode cX6_holiday 47 = .ok (.invokevirtual 108, 3) := by decide +kernel
theorem dX6_holiday_50 : decode cX6_holiday 50 = .ok (.ifCond .eq 5, 3) := by decide +kernel
theorem dX6_holiday_53 : decode cX6_holiday 53 = .ok (.iconst 0, 1) := by decide +kernel
theorem dX6_holiday_54 : decode cX6_holiday 54 = .ok (.ireturn, 1) := by decide +kernel
theorem dX6_holiday_55 : decode cX6_holiday 55 = .ok (.aload_n 0, 1) := by decide +kernel
theorem dX6_holiday_56 : decode cX6_holiday 56 = .ok (.invokevirtual 214, 3) := by decide +kernel
theorem dX6_holiday_59 : decode cX6_holiday 59 = .ok (.aload_n 0, 1) := by decide +kernel
theorem dX6_holiday_60 : decode cX6_holiday 60 = .ok (.getfield 13, 3) := by decide +kernel
theorem dX6_holiday_63 : decode cX6_holiday 63 = .ok (.iload_n 1, 1) := by decide +kernel
theorem dX6_holiday_64 : decode cX6_holiday 64 = .ok (.iload_n 2, 1) := by decide +kernel
theorem dX6_holiday_65 : decode cX6_holiday 65 = .ok (.iload_n 3, 1) := by decide +kernel
theorem dX6_holiday_66 : decode cX6_holiday 66 = .ok (.invokestatic 146, 3) := by decide +kernel
theorem dX6_holiday_69 : decode cX6_holiday 69 = .ok (.ireturn, 1) := by decide +kernel
theorem dX6_drop_0 : decode cX6_drop 0 = .ok (.aload_n 0, 1) := by decide +kernel
theorem dX6_drop_1 : decode cX6_drop 1 = .ok (.aload_n 0, 1) := by decide +kernel
theorem dX6_drop_2 : decode cX6_drop 2 = .ok (.getfield 13, 3) := by decide +kernel
theorem dX6_drop_5 : decode cX6_drop 5 = .ok (.iload_n 1, 1) := by decide +kernel
theorem dX6_drop_6 : decode cX6_drop 6 = .ok (.invokestatic 139, 3) := by decide +kernel
theorem dX6_drop_9 : decode cX6_drop 9 = .ok (.ifCond .eq 29, 3) := by decide +kernel
theorem dX6_drop_12 : decode cX6_drop 12 = .ok (.iload_n 2, 1) := by decide +kernel
theorem dX6_drop_13 : decode cX6_drop 13 = .ok (.i2l, 1) := by decide +kernel
theorem dX6_drop_14 : decode cX6_drop 14 = .ok (.lconst 0, 1) := by decide +kernel
theorem dX6_drop_15 : decode cX6_drop 15 = .ok (.aload_n 0, 1) := by decide +kernel
theorem dX6_drop_16 : decode cX6_drop 16 = .ok (.getfield 13, 3) := by decide +kernel
theorem dX6_drop_19 : decode cX6_drop 19 = .ok (.iload_n 1, 1) := by decide +kernel
theorem dX6_drop_20 : decode cX6_drop 20 = .ok (.bipush 14, 2) := by decide +kernel
theorem dX6_drop_22 : decode cX6_drop 22 = .ok (.invokestatic 53, 3) := by decide +kernel
theorem dX6_drop_25 : decode cX6_drop 25 = .ok (.iconst 1, 1) := by decide +kernel
theorem dX6_drop_26 : decode cX6_drop 26 = .ok (.isub, 1) := by decide +kernel
theorem dX6_drop_27 : decode cX6_drop 27 = .ok (.i2l, 1) := by decide +kernel
theorem dX6_drop_28 : decode cX6_drop 28 = .ok (.invokestatic 37, 3) := by decide +kernel
theorem dX6_drop_31 : decode cX6_drop 31 = .ok (.ifCond .eq 7, 3) := by decide +kernel
theorem dX6_drop_34 : decode cX6_drop 34 = .ok (.iconst 0, 1) := by decide +kernel
theorem dX6_drop_35 : decode cX6_drop 35 = .ok (.goto 4, 3) := by decide +kernel
theorem dX6_drop_38 : decode cX6_drop 38 = .ok (.iconst 1, 1) := by decide +kernel
theorem dX6_drop_39 : decode cX6_drop 39 = .ok (.invokevirtual 108, 3) := by decide +kernel
theorem dX6_drop_42 : decode cX6_drop 42 = .ok (.ifCond .eq 5, 3) := by decide +kernel
theorem dX6_drop_45 : decode cX6_drop 45 = .ok (.iconst 0, 1) := by decide +kernel
theorem dX6_drop_46 : decode cX6_drop 46 = .ok (.ireturn, 1) := by decide +kernel
theorem dX6_drop_47 : decode cX6_drop 47 = .ok (.aload_n 0, 1) := by decide +kernel
theorem dX6_drop_48 : decode cX6_drop 48 = .ok (.invokevirtual 214, 3) := by decide +kernel
theorem dX6_drop_51 : decode cX6_drop 51 = .ok (.aload_n 0, 1) := by decide +kernel
theorem dX6_drop_52 : decode cX6_drop 52 = .ok (.getfield 13, 3) := by decide +kernel
theorem dX6_drop_55 : decode cX6_drop 55 = .ok (.iload_n 1, 1) := by decide +kernel
theorem dX6_drop_56 : decode cX6_drop 56 = .ok (.iload_n 2, 1) := by decide +kernel
theorem dX6_drop_57 : decode cX6_drop 57 = .ok (.invokestatic 220, 3) := by decide +kernel
theorem dX6_drop_60 : decode cX6_drop 60 = .ok (.ireturn, 1) := by decide +kernel
theorem dX6_close_0 : decode cX6_close 0 = .ok (.aload_n 0, 1) := by decide +kernel
theorem dX6_close_1 : decode cX6_close 1 = .ok (.iload_n 1, 1) := by decide +kernel
theorem dX6_close_2 : decode cX6_close 2 = .ok (.invokestatic 205, 3) := by decide +kernel
theorem dX6_close_5 : decode cX6_close 5 = .ok (.ifCond .eq 14, 3) := by decide +kernel
theorem dX6_close_8 : decode cX6_close 8 = .ok (.iload_n 2, 1) := by decide +kernel
theorem dX6_close_9 : decode cX6_close 9 = .ok (.invokestatic 200, 3) := by decide +kernel
theorem dX6_close_12 : decode cX6_close 12 = .ok (.ifCond .eq 7, 3) := by decide +kernel
theorem dX6_close_15 : decode cX6_close 15 = .ok (.iconst 0, 1) := by decide +kernel
theorem dX6_close_16 : decode cX6_close 16 = .ok (.goto 4, 3) := by decide +kernel
theorem dX6_close_19 : decode cX6_close 19 = .ok (.iconst 1, 1) := by decide +kernel
theorem dX6_close_20 : decode cX6_close 20 = .ok (.invokevirtual 108, 3) := by decide +kernel
theorem dX6_close_23 : decode cX6_close 23 = .ok (.ifCond .eq 5, 3) := by decide +kernel
theorem dX6_close_26 : decode cX6_close 26 = .ok (.iconst 0, 1) := by decide +kernel
theorem dX6_close_27 : decode cX6_close 27 = .ok (.ireturn, 1) := by decide +kernel
theorem dX6_close_28 : decode cX6_close 28 = .ok (.aload_n 0, 1) := by decide +kernel
theorem dX6_close_29 : decode cX6_close 29 = .ok (.invokevirtual 214, 3) := by decide +kernel
theorem dX6_close_32 : decode cX6_close 32 = .ok (.aload_n 0, 1) := by decide +kernel
theorem dX6_close_33 : decode cX6_close 33 = .ok (.getfield 13, 3) := by decide +kernel
theorem dX6_close_36 : decode cX6_close 36 = .ok (.iload_n 1, 1) := by decide +kernel
theorem dX6_close_37 : decode cX6_close 37 = .ok (.iload_n 2, 1) := by decide +kernel
theorem dX6_close_38 : decode cX6_close 38 = .ok (.iload_n 3, 1) := by decide +kernel
theorem dX6_close_39 : decode cX6_close 39 = .ok (.invokestatic 149, 3) := by decide +kernel
theorem dX6_close_42 : decode cX6_close 42 = .ok (.ireturn, 1) := by decide +kernel
theorem dX6_swap_0 : decode cX6_swap 0 = .ok (.aload_n 0, 1) := by decide +kernel
theorem dX6_swap_1 : decode cX6_swap 1 = .ok (.iload_n 1, 1) := by decide +kernel
theorem dX6_swap_2 : decode cX6_swap 2 = .ok (.invokestatic 205, 3) := by decide +kernel
theorem dX6_swap_5 : decode cX6_swap 5 = .ok (.ifCond .eq 14, 3) := by decide +kernel
theorem dX6_swap_8 : decode cX6_swap 8 = .ok (.iload_n 2, 1) := by decide +kernel
theorem dX6_swap_9 : decode cX6_swap 9 = .ok (.invokestatic 205, 3) := by decide +kernel
theorem dX6_swap_12 : decode cX6_swap 12 = .ok (.ifCond .eq 7, 3) := by decide +kernel
theorem dX6_swap_15 : decode cX6_swap 15 = .ok (.iconst 0, 1) := by decide +kernel
theorem dX6_swap_16 : decode cX6_swap 16 = .ok (.goto 4, 3) := by decide +kernel
theorem dX6_swap_19 : decode cX6_swap 19 = .ok (.iconst 1, 1) := by decide +kernel
theorem dX6_swap_20 : decode cX6_swap 20 = .ok (.invokevirtual 108, 3) := by decide +kernel
theorem dX6_swap_23 : decode cX6_swap 23 = .ok (.ifCond .eq 5, 3) := by decide +kernel
theorem dX6_swap_26 : decode cX6_swap 26 = .ok (.iconst 0, 1) := by decide +kernel
theorem dX6_swap_27 : decode cX6_swap 27 = .ok (.ireturn, 1) := by decide +kernel
theorem dX6_swap_28 : decode cX6_swap 28 = .ok (.aload_n 0, 1) := by decide +kernel
theorem dX6_swap_29 : decode cX6_swap 29 = .ok (.invokevirtual 214, 3) := by decide +kernel
theorem dX6_swap_32 : decode cX6_swap 32 = .ok (.aload_n 0, 1) := by decide +kernel
theorem dX6_swap_33 : decode cX6_swap 33 = .ok (.getfield 13, 3) := by decide +kernel
theorem dX6_swap_36 : decode cX6_swap 36 = .ok (.iload_n 1, 1) := by decide +kernel
theorem dX6_swap_37 : decode cX6_swap 37 = .ok (.iload_n 2, 1) := by decide +kernel
theorem dX6_swap_38 : decode cX6_swap 38 = .ok (.invokestatic 166, 3) := by decide +kernel
theorem dX6_swap_41 : decode cX6_swap 41 = .ok (.ireturn, 1) := by decide +kernel
theorem dX6_set_0 : decode cX6_set 0 = .ok (.aload_n 0, 1) := by decide +kernel
theorem dX6_set_1 : decode cX6_set 1 = .ok (.iload_n 1, 1) := by decide +kernel
theorem dX6_set_2 : decode cX6_set 2 = .ok (.iload_n 2, 1) := by decide +kernel
theorem dX6_set_3 : decode cX6_set 3 = .ok (.invokestatic 169, 3) := by decide +kernel
theorem dX6_set_6 : decode cX6_set 6 = .ok (.ifCond .eq 7, 3) := by decide +kernel
theorem dX6_set_9 : decode cX6_set 9 = .ok (.iconst 0, 1) := by decide +kernel
theorem dX6_set_10 : decode cX6_set 10 = .ok (.goto 4, 3) := by decide +kernel
theorem dX6_set_13 : decode cX6_set 13 = .ok (.iconst 1, 1) := by decide +kernel
theorem dX6_set_14 : decode cX6_set 14 = .ok (.invokevirtual 108, 3) := by decide +kernel
theorem dX6_set_17 : decode cX6_set 17 = .ok (.ifCond .eq 5, 3) := by decide +kernel
theorem dX6_set_20 : decode cX6_set 20 = .ok (.iconst 0, 1) := by decide +kernel
theorem dX6_set_21 : decode cX6_set 21 = .ok (.ireturn, 1) := by decide +kernel
theorem dX6_set_22 : decode cX6_set 22 = .ok (.aload_n 0, 1) := by decide +kernel
theorem dX6_set_23 : decode cX6_set 23 = .ok (.invokevirtual 214, 3) := by decide +kernel
theorem dX6_set_26 : decode cX6_set 26 = .ok (.aload_n 0, 1) := by decide +kernel
theorem dX6_set_27 : decode cX6_set 27 = .ok (.getfield 13, 3) := by decide +kernel
theorem dX6_set_30 : decode cX6_set 30 = .ok (.bipush 11, 2) := by decide +kernel
theorem dX6_set_32 : decode cX6_set 32 = .ok (.iload_n 1, 1) := by decide +kernel
theorem dX6_set_33 : decode cX6_set 33 = .ok (.iadd, 1) := by decide +kernel
theorem dX6_set_34 : decode cX6_set 34 = .ok (.iload_n 2, 1) := by decide +kernel
theorem dX6_set_35 : decode cX6_set 35 = .ok (.invokestatic 95, 3) := by decide +kernel
theorem dX6_set_38 : decode cX6_set 38 = .ok (.ireturn, 1) := by decide +kernel
theorem dX6_days_0 : decode cX6_days 0 = .ok (.aload_n 0, 1) := by decide +kernel
theorem dX6_days_1 : decode cX6_days 1 = .ok (.iload_n 1, 1) := by decide +kernel
theorem dX6_days_2 : decode cX6_days 2 = .ok (.i2l, 1) := by decide +kernel
theorem dX6_days_3 : decode cX6_days 3 = .ok (.lconst 1, 1) := by decide +kernel
theorem dX6_days_4 : decode cX6_days 4 = .ok (.ldc2_w 223, 3) := by decide +kernel
theorem dX6_days_7 : decode cX6_days 7 = .ok (.invokestatic 37, 3) := by decide +kernel
theorem dX6_days_10 : decode cX6_days 10 = .ok (.ifCond .eq 7, 3) := by decide +kernel
theorem dX6_days_13 : decode cX6_days 13 = .ok (.iconst 0, 1) := by decide +kernel
theorem dX6_days_14 : decode cX6_days 14 = .ok (.goto 4, 3) := by decide +kernel
theorem dX6_days_17 : decode cX6_days 17 = .ok (.iconst 1, 1) := by decide +kernel
theorem dX6_days_18 : decode cX6_days 18 = .ok (.invokevirtual 108, 3) := by decide +kernel
theorem dX6_days_21 : decode cX6_days 21 = .ok (.ifCond .eq 5, 3) := by decide +kernel
theorem dX6_days_24 : decode cX6_days 24 = .ok (.iconst 0, 1) := by decide +kernel
theorem dX6_days_25 : decode cX6_days 25 = .ok (.ireturn, 1) := by decide +kernel
theorem dX6_days_26 : decode cX6_days 26 = .ok (.aload_n 0, 1) := by decide +kernel
theorem dX6_days_27 : decode cX6_days 27 = .ok (.invokevirtual 214, 3) := by decide +kernel
theorem dX6_days_30 : decode cX6_days 30 = .ok (.aload_n 0, 1) := by decide +kernel
theorem dX6_days_31 : decode cX6_days 31 = .ok (.getfield 13, 3) := by decide +kernel
theorem dX6_days_34 : decode cX6_days 34 = .ok (.iload_n 1, 1) := by decide +kernel
theorem dX6_days_35 : decode cX6_days 35 = .ok (.invokestatic 173, 3) := by decide +kernel
theorem dX6_days_38 : decode cX6_days 38 = .ok (.ireturn, 1) := by decide +kernel
theorem dX6_undo_0 : decode cX6_undo 0 = .ok (.aload_n 0, 1) := by decide +kernel
theorem dX6_undo_1 : decode cX6_undo 1 = .ok (.aload_n 0, 1) := by decide +kernel
theorem dX6_undo_2 : decode cX6_undo 2 = .ok (.getfield 187, 3) := by decide +kernel
theorem dX6_undo_5 : decode cX6_undo 5 = .ok (.ifCond .ne 7, 3) := by decide +kernel
theorem dX6_undo_8 : decode cX6_undo 8 = .ok (.iconst 1, 1) := by decide +kernel
theorem dX6_undo_9 : decode cX6_undo 9 = .ok (.goto 4, 3) := by decide +kernel
theorem dX6_undo_12 : decode cX6_undo 12 = .ok (.iconst 0, 1) := by decide +kernel
theorem dX6_undo_13 : decode cX6_undo 13 = .ok (.invokevirtual 108, 3) := by decide +kernel
theorem dX6_undo_16 : decode cX6_undo 16 = .ok (.ifCond .eq 5, 3) := by decide +kernel
theorem dX6_undo_19 : decode cX6_undo 19 = .ok (.iconst 0, 1) := by decide +kernel
theorem dX6_undo_20 : decode cX6_undo 20 = .ok (.ireturn, 1) := by decide +kernel
theorem dX6_undo_21 : decode cX6_undo 21 = .ok (.aload_n 0, 1) := by decide +kernel
theorem dX6_undo_22 : decode cX6_undo 22 = .ok (.dup, 1) := by decide +kernel
theorem dX6_undo_23 : decode cX6_undo 23 = .ok (.getfield 187, 3) := by decide +kernel
theorem dX6_undo_26 : decode cX6_undo 26 = .ok (.iconst 1, 1) := by decide +kernel
theorem dX6_undo_27 : decode cX6_undo 27 = .ok (.isub, 1) := by decide +kernel
theorem dX6_undo_28 : decode cX6_undo 28 = .ok (.putfield 187, 3) := by decide +kernel
theorem dX6_undo_31 : decode cX6_undo 31 = .ok (.aload_n 0, 1) := by decide +kernel
theorem dX6_undo_32 : decode cX6_undo 32 = .ok (.getfield 19, 3) := by decide +kernel
theorem dX6_undo_35 : decode cX6_undo 35 = .ok (.sipush 258, 3) := by decide +kernel
theorem dX6_undo_38 : decode cX6_undo 38 = .ok (.aload_n 0, 1) := by decide +kernel
theorem dX6_undo_39 : decode cX6_undo 39 = .ok (.getfield 187, 3) := by decide +kernel
theorem dX6_undo_42 : decode cX6_undo 42 = .ok (.imul, 1) := by decide +kernel
theorem dX6_undo_43 : decode cX6_undo 43 = .ok (.aload_n 0, 1) := by decide +kernel
theorem dX6_undo_44 : decode cX6_undo 44 = .ok (.getfield 13, 3) := by decide +kernel
theorem dX6_undo_47 : decode cX6_undo 47 = .ok (.iconst 0, 1) := by decide +kernel
theorem dX6_undo_48 : decode cX6_undo 48 = .ok (.invokestatic 183, 3) := by decide +kernel
theorem dX6_undo_51 : decode cX6_undo 51 = .ok (.aload_n 0, 1) := by decide +kernel
theorem dX6_undo_52 : decode cX6_undo 52 = .ok (.getfield 187, 3) := by decide +kernel
theorem dX6_undo_55 : decode cX6_undo 55 = .ok (.ireturn, 1) := by decide +kernel
theorem dX6_why_0 : decode cX6_why 0 = .ok (.aload_n 0, 1) := by decide +kernel
theorem dX6_why_1 : decode cX6_why 1 = .ok (.aload_n 0, 1) := by decide +kernel
theorem dX6_why_2 : decode cX6_why 2 = .ok (.getfield 13, 3) := by decide +kernel
theorem dX6_why_5 : decode cX6_why 5 = .ok (.iload_n 1, 1) := by decide +kernel
theorem dX6_why_6 : decode cX6_why 6 = .ok (.invokestatic 139, 3) := by decide +kernel
theorem dX6_why_9 : decode cX6_why 9 = .ok (.ifCond .eq 7, 3) := by decide +kernel
theorem dX6_why_12 : decode cX6_why 12 = .ok (.iconst 0, 1) := by decide +kernel
theorem dX6_why_13 : decode cX6_why 13 = .ok (.goto 4, 3) := by decide +kernel
theorem dX6_why_16 : decode cX6_why 16 = .ok (.iconst 1, 1) := by decide +kernel
theorem dX6_why_17 : decode cX6_why 17 = .ok (.invokevirtual 108, 3) := by decide +kernel
theorem dX6_why_20 : decode cX6_why 20 = .ok (.ifCond .eq 5, 3) := by decide +kernel
theorem dX6_why_23 : decode cX6_why 23 = .ok (.iconst 0, 1) := by decide +kernel
theorem dX6_why_24 : decode cX6_why 24 = .ok (.ireturn, 1) := by decide +kernel
theorem dX6_why_25 : decode cX6_why 25 = .ok (.aload_n 0, 1) := by decide +kernel
theorem dX6_why_26 : decode cX6_why 26 = .ok (.getfield 13, 3) := by decide +kernel
theorem dX6_why_29 : decode cX6_why 29 = .ok (.iload_n 1, 1) := by decide +kernel
theorem dX6_why_30 : decode cX6_why 30 = .ok (.invokestatic 225, 3) := by decide +kernel
theorem dX6_why_33 : decode cX6_why 33 = .ok (.ireturn, 1) := by decide +kernel
theorem dX6_creditIn_0 : decode cX6_creditIn 0 = .ok (.aload_n 0, 1) := by decide +kernel
theorem dX6_creditIn_1 : decode cX6_creditIn 1 = .ok (.aload_n 0, 1) := by decide +kernel
theorem dX6_creditIn_2 : decode cX6_creditIn 2 = .ok (.getfield 13, 3) := by decide +kernel
theorem dX6_creditIn_5 : decode cX6_creditIn 5 = .ok (.iload_n 1, 1) := by decide +kernel
theorem dX6_creditIn_6 : decode cX6_creditIn 6 = .ok (.invokestatic 139, 3) := by decide +kernel
theorem dX6_creditIn_9 : decode cX6_creditIn 9 = .ok (.ifCond .ne 7, 3) := by decide +kernel
theorem dX6_creditIn_12 : decode cX6_creditIn 12 = .ok (.iconst 1, 1) := by decide +kernel
theorem dX6_creditIn_13 : decode cX6_creditIn 13 = .ok (.goto 20, 3) := by decide +kernel
theorem dX6_creditIn_16 : decode cX6_creditIn 16 = .ok (.iload_n 2, 1) := by decide +kernel
theorem dX6_creditIn_17 : decode cX6_creditIn 17 = .ok (.i2l, 1) := by decide +kernel
theorem dX6_creditIn_18 : decode cX6_creditIn 18 = .ok (.lconst 0, 1) := by decide +kernel
theorem dX6_creditIn_19 : decode cX6_creditIn 19 = .ok (.ldc2_w 228, 3) := by decide +kernel
theorem dX6_creditIn_22 : decode cX6_creditIn 22 = .ok (.invokestatic 37, 3) := by decide +kernel
theorem dX6_creditIn_25 : decode cX6_creditIn 25 = .ok (.ifCond .eq 7, 3) := by decide +kernel
theorem dX6_creditIn_28 : decode cX6_creditIn 28 = .ok (.iconst 0, 1) := by decide +kernel
theorem dX6_creditIn_29 : decode cX6_creditIn 29 = .ok (.goto 4, 3) := by decide +kernel
theorem dX6_creditIn_32 : decode cX6_creditIn 32 = .ok (.iconst 2, 1) := by decide +kernel
theorem dX6_creditIn_33 : decode cX6_creditIn 33 = .ok (.invokevirtual 108, 3) := by decide +kernel
theorem dX6_creditIn_36 : decode cX6_creditIn 36 = .ok (.ifCond .eq 5, 3) := by decide +kernel
theorem dX6_creditIn_39 : decode cX6_creditIn 39 = .ok (.iconst 0, 1) := by decide +kernel
theorem dX6_creditIn_40 : decode cX6_creditIn 40 = .ok (.ireturn, 1) := by decide +kernel
theorem dX6_creditIn_41 : decode cX6_creditIn 41 = .ok (.aload_n 0, 1) := by decide +kernel
theorem dX6_creditIn_42 : decode cX6_creditIn 42 = .ok (.getfield 13, 3) := by decide +kernel
theorem dX6_creditIn_45 : decode cX6_creditIn 45 = .ok (.iconst 0, 1) := by decide +kernel
theorem dX6_creditIn_46 : decode cX6_creditIn 46 = .ok (.aload_n 0, 1) := by decide +kernel
theorem dX6_creditIn_47 : decode cX6_creditIn 47 = .ok (.getfield 16, 3) := by decide +kernel
theorem dX6_creditIn_50 : decode cX6_creditIn 50 = .ok (.iconst 0, 1) := by decide +kernel
theorem dX6_creditIn_51 : decode cX6_creditIn 51 = .ok (.invokestatic 183, 3) := by decide +kernel
theorem dX6_creditIn_54 : decode cX6_creditIn 54 = .ok (.aload_n 0, 1) := by decide +kernel
theorem dX6_creditIn_55 : decode cX6_creditIn 55 = .ok (.getfield 16, 3) := by decide +kernel
theorem dX6_creditIn_58 : decode cX6_creditIn 58 = .ok (.iload_n 2, 1) := by decide +kernel
theorem dX6_creditIn_59 : decode cX6_creditIn 59 = .ok (.invokestatic 173, 3) := by decide +kernel
theorem dX6_creditIn_62 : decode cX6_creditIn 62 = .ok (.pop, 1) := by decide +kernel
theorem dX6_creditIn_63 : decode cX6_creditIn 63 = .ok (.aload_n 0, 1) := by decide +kernel
theorem dX6_creditIn_64 : decode cX6_creditIn 64 = .ok (.getfield 16, 3) := by decide +kernel
theorem dX6_creditIn_67 : decode cX6_creditIn 67 = .ok (.iload_n 1, 1) := by decide +kernel
theorem dX6_creditIn_68 : decode cX6_creditIn 68 = .ok (.bipush 8, 2) := by decide +kernel
theorem dX6_creditIn_70 : decode cX6_creditIn 70 = .ok (.invokestatic 53, 3) := by decide +kernel
theorem dX6_creditIn_73 : decode cX6_creditIn 73 = .ok (.ireturn, 1) := by decide +kernel
theorem dX6_clearIn_0 : decode cX6_clearIn 0 = .ok (.aload_n 0, 1) := by decide +kernel
theorem dX6_clearIn_1 : decode cX6_clearIn 1 = .ok (.aload_n 0, 1) := by decide +kernel
theorem dX6_clearIn_2 : decode cX6_clearIn 2 = .ok (.getfield 13, 3) := by decide +kernel
theorem dX6_clearIn_5 : decode cX6_clearIn 5 = .ok (.iload_n 1, 1) := by decide +kernel
theorem dX6_clearIn_6 : decode cX6_clearIn 6 = .ok (.invokestatic 139, 3) := by decide +kernel
theorem dX6_clearIn_9 : decode cX6_clearIn 9 = .ok (.ifCond .eq 7, 3) := by decide +kernel
theorem dX6_clearIn_12 : decode cX6_clearIn 12 = .ok (.iconst 0, 1) := by decide +kernel
theorem dX6_clearIn_13 : decode cX6_clearIn 13 = .ok (.goto 4, 3) := by decide +kernel
theorem dX6_clearIn_16 : decode cX6_clearIn 16 = .ok (.iconst 1, 1) := by decide +kernel
theorem dX6_clearIn_17 : decode cX6_clearIn 17 = .ok (.invokevirtual 108, 3) := by decide +kernel
theorem dX6_clearIn_20 : decode cX6_clearIn 20 = .ok (.ifCond .eq 5, 3) := by decide +kernel
theorem dX6_clearIn_23 : decode cX6_clearIn 23 = .ok (.iconst 0, 1) := by decide +kernel
theorem dX6_clearIn_24 : decode cX6_clearIn 24 = .ok (.ireturn, 1) := by decide +kernel
theorem dX6_clearIn_25 : decode cX6_clearIn 25 = .ok (.aload_n 0, 1) := by decide +kernel
theorem dX6_clearIn_26 : decode cX6_clearIn 26 = .ok (.getfield 13, 3) := by decide +kernel
theorem dX6_clearIn_29 : decode cX6_clearIn 29 = .ok (.iconst 0, 1) := by decide +kernel
theorem dX6_clearIn_30 : decode cX6_clearIn 30 = .ok (.aload_n 0, 1) := by decide +kernel
theorem dX6_clearIn_31 : decode cX6_clearIn 31 = .ok (.getfield 16, 3) := by decide +kernel
theorem dX6_clearIn_34 : decode cX6_clearIn 34 = .ok (.iconst 0, 1) := by decide +kernel
theorem dX6_clearIn_35 : decode cX6_clearIn 35 = .ok (.invokestatic 183, 3) := by decide +kernel
theorem dX6_clearIn_38 : decode cX6_clearIn 38 = .ok (.iconst 0, 1) := by decide +kernel
theorem dX6_clearIn_39 : decode cX6_clearIn 39 = .ok (.istore_n 2, 1) := by decide +kernel
theorem dX6_clearIn_40 : decode cX6_clearIn 40 = .ok (.iload_n 2, 1) := by decide +kernel
theorem dX6_clearIn_41 : decode cX6_clearIn 41 = .ok (.sipush 200, 3) := by decide +kernel
theorem dX6_clearIn_44 : decode cX6_clearIn 44 = .ok (.if_icmp .gt 31, 3) := by decide +kernel
theorem dX6_clearIn_47 : decode cX6_clearIn 47 = .ok (.aload_n 0, 1) := by decide +kernel
theorem dX6_clearIn_48 : decode cX6_clearIn 48 = .ok (.getfield 16, 3) := by decide +kernel
theorem dX6_clearIn_51 : decode cX6_clearIn 51 = .ok (.iload_n 1, 1) := by decide +kernel
theorem dX6_clearIn_52 : decode cX6_clearIn 52 = .ok (.bipush 8, 2) := by decide +kernel
theorem dX6_clearIn_54 : decode cX6_clearIn 54 = .ok (.invokestatic 53, 3) := by decide +kernel
theorem dX6_clearIn_57 : decode cX6_clearIn 57 = .ok (.ifCond .ne 5, 3) := by decide +kernel
theorem dX6_clearIn_60 : decode cX6_clearIn 60 = .ok (.iload_n 2, 1) := by decide +kernel
theorem dX6_clearIn_61 : decode cX6_clearIn 61 = .ok (.ireturn, 1) := by decide +kernel
theorem dX6_clearIn_62 : decode cX6_clearIn 62 = .ok (.aload_n 0, 1) := by decide +kernel
theorem dX6_clearIn_63 : decode cX6_clearIn 63 = .ok (.getfield 16, 3) := by decide +kernel
theorem dX6_clearIn_66 : decode cX6_clearIn 66 = .ok (.invokestatic 92, 3) := by decide +kernel
theorem dX6_clearIn_69 : decode cX6_clearIn 69 = .ok (.iinc 2 1, 3) := by decide +kernel
theorem dX6_clearIn_72 : decode cX6_clearIn 72 = .ok (.goto (-32), 3) := by decide +kernel
theorem dX6_clearIn_75 : decode cX6_clearIn 75 = .ok (.iconst (-1), 1) := by decide +kernel
theorem dX6_clearIn_76 : decode cX6_clearIn 76 = .ok (.ireturn, 1) := by decide +kernel
theorem dX6_leastOven_0 : decode cX6_leastOven 0 = .ok (.aload_n 0, 1) := by decide +kernel
theorem dX6_leastOven_1 : decode cX6_leastOven 1 = .ok (.iload_n 1, 1) := by decide +kernel
theorem dX6_leastOven_2 : decode cX6_leastOven 2 = .ok (.i2l, 1) := by decide +kernel
theorem dX6_leastOven_3 : decode cX6_leastOven 3 = .ok (.lconst 1, 1) := by decide +kernel
theorem dX6_leastOven_4 : decode cX6_leastOven 4 = .ok (.ldc2_w 223, 3) := by decide +kernel
theorem dX6_leastOven_7 : decode cX6_leastOven 7 = .ok (.invokestatic 37, 3) := by decide +kernel
theorem dX6_leastOven_10 : decode cX6_leastOven 10 = .ok (.ifCond .eq 7, 3) := by decide +kernel
theorem dX6_leastOven_13 : decode cX6_leastOven 13 = .ok (.iconst 0, 1) := by decide +kernel
theorem dX6_leastOven_14 : decode cX6_leastOven 14 = .ok (.goto 4, 3) := by decide +kernel
theorem dX6_leastOven_17 : decode cX6_leastOven 17 = .ok (.iconst 1, 1) := by decide +kernel
theorem dX6_leastOven_18 : decode cX6_leastOven 18 = .ok (.invokevirtual 108, 3) := by decide +kernel
theorem dX6_leastOven_21 : decode cX6_leastOven 21 = .ok (.ifCond .eq 5, 3) := by decide +kernel
theorem dX6_leastOven_24 : decode cX6_leastOven 24 = .ok (.iconst 0, 1) := by decide +kernel
theorem dX6_leastOven_25 : decode cX6_leastOven 25 = .ok (.ireturn, 1) := by decide +kernel
theorem dX6_leastOven_26 : decode cX6_leastOven 26 = .ok (.iconst 0, 1) := by decide +kernel
theorem dX6_leastOven_27 : decode cX6_leastOven 27 = .ok (.istore_n 2, 1) := by decide +kernel
theorem dX6_leastOven_28 : decode cX6_leastOven 28 = .ok (.aload_n 0, 1) := by decide +kernel
theorem dX6_leastOven_29 : decode cX6_leastOven 29 = .ok (.getfield 13, 3) := by decide +kernel
theorem dX6_leastOven_32 : decode cX6_leastOven 32 = .ok (.iconst 1, 1) := by decide +kernel
theorem dX6_leastOven_33 : decode cX6_leastOven 33 = .ok (.iaload, 1) := by decide +kernel
theorem dX6_leastOven_34 : decode cX6_leastOven 34 = .ok (.istore_n 3, 1) := by decide +kernel
theorem dX6_leastOven_35 : decode cX6_leastOven 35 = .ok (.iload_n 3, 1) := by decide +kernel
theorem dX6_leastOven_36 : decode cX6_leastOven 36 = .ok (.aload_n 0, 1) := by decide +kernel
theorem dX6_leastOven_37 : decode cX6_leastOven 37 = .ok (.getfield 13, 3) := by decide +kernel
theorem dX6_leastOven_40 : decode cX6_leastOven 40 = .ok (.iconst 1, 1) := by decide +kernel
theorem dX6_leastOven_41 : decode cX6_leastOven 41 = .ok (.iaload, 1) := by decide +kernel
theorem dX6_leastOven_42 : decode cX6_leastOven 42 = .ok (.iload_n 1, 1) := by decide +kernel
theorem dX6_leastOven_43 : decode cX6_leastOven 43 = .ok (.iadd, 1) := by decide +kernel
theorem dX6_leastOven_44 : decode cX6_leastOven 44 = .ok (.if_icmp .ge 77, 3) := by decide +kernel
theorem dX6_leastOven_47 : decode cX6_leastOven 47 = .ok (.iconst 0, 1) := by decide +kernel
theorem dX6_leastOven_48 : decode cX6_leastOven 48 = .ok (.istore 4, 2) := by decide +kernel
theorem dX6_leastOven_50 : decode cX6_leastOven 50 = .ok (.iconst 0, 1) := by decide +kernel
theorem dX6_leastOven_51 : decode cX6_leastOven 51 = .ok (.istore 5, 2) := by decide +kernel
theorem dX6_leastOven_53 : decode cX6_leastOven 53 = .ok (.iload 5, 2) := by decide +kernel
theorem dX6_leastOven_55 : decode cX6_leastOven 55 = .ok (.aload_n 0, 1) := by decide +kernel
theorem dX6_leastOven_56 : decode cX6_leastOven 56 = .ok (.getfield 13, 3) := by decide +kernel
theorem dX6_leastOven_59 : decode cX6_leastOven 59 = .ok (.iconst 0, 1) := by decide +kernel
theorem dX6_leastOven_60 : decode cX6_leastOven 60 = .ok (.iaload, 1) := by decide +kernel
theorem dX6_leastOven_61 : decode cX6_leastOven 61 = .ok (.if_icmp .ge 41, 3) := by decide +kernel
theorem dX6_leastOven_64 : decode cX6_leastOven 64 = .ok (.iload 4, 2) := by decide +kernel
theorem dX6_leastOven_66 : decode cX6_leastOven 66 = .ok (.aload_n 0, 1) := by decide +kernel
theorem dX6_leastOven_67 : decode cX6_leastOven 67 = .ok (.getfield 13, 3) := by decide +kernel
theorem dX6_leastOven_70 : decode cX6_leastOven 70 = .ok (.iload 5, 2) := by decide +kernel
theorem dX6_leastOven_72 : decode cX6_leastOven 72 = .ok (.iload_n 3, 1) := by decide +kernel
theorem dX6_leastOven_73 : decode cX6_leastOven 73 = .ok (.invokestatic 68, 3) := by decide +kernel
theorem dX6_leastOven_76 : decode cX6_leastOven 76 = .ok (.ifCond .eq 16, 3) := by decide +kernel
theorem dX6_leastOven_79 : decode cX6_leastOven 79 = .ok (.aload_n 0, 1) := by decide +kernel
theorem dX6_leastOven_80 : decode cX6_leastOven 80 = .ok (.getfield 13, 3) := by decide +kernel
theorem dX6_leastOven_83 : decode cX6_leastOven 83 = .ok (.iload 5, 2) := by decide +kernel
theorem dX6_leastOven_85 : decode cX6_leastOven 85 = .ok (.iload_n 3, 1) := by decide +kernel
theorem dX6_leastOven_86 : decode cX6_leastOven 86 = .ok (.invokestatic 61, 3) := by decide +kernel
theorem dX6_leastOven_89 : decode cX6_leastOven 89 = .ok (.goto 4, 3) := by decide +kernel
theorem dX6_leastOven_92 : decode cX6_leastOven 92 = .ok (.iconst 0, 1) := by decide +kernel
theorem dX6_leastOven_93 : decode cX6_leastOven 93 = .ok (.iadd, 1) := by decide +kernel
theorem dX6_leastOven_94 : decode cX6_leastOven 94 = .ok (.istore 4, 2) := by decide +kernel
theorem dX6_leastOven_96 : decode cX6_leastOven 96 = .ok (.iinc 5 1, 3) := by decide +kernel
theorem dX6_leastOven_99 : decode cX6_leastOven 99 = .ok (.goto (-46), 3) := by decide +kernel
theorem dX6_leastOven_102 : decode cX6_leastOven 102 = .ok (.iload 4, 2) := by decide +kernel
theorem dX6_leastOven_104 : decode cX6_leastOven 104 = .ok (.iload_n 2, 1) := by decide +kernel
theorem dX6_leastOven_105 : decode cX6_leastOven 105 = .ok (.if_icmp .le 8, 3) := by decide +kernel
theorem dX6_leastOven_108 : decode cX6_leastOven 108 = .ok (.iload 4, 2) := by decide +kernel
theorem dX6_leastOven_110 : decode cX6_leastOven 110 = .ok (.goto 4, 3) := by decide +kernel
theorem dX6_leastOven_113 : decode cX6_leastOven 113 = .ok (.iload_n 2, 1) := by decide +kernel
theorem dX6_leastOven_114 : decode cX6_leastOven 114 = .ok (.istore_n 2, 1) := by decide +kernel
theorem dX6_leastOven_115 : decode cX6_leastOven 115 = .ok (.iinc 3 1, 3) := by decide +kernel
theorem dX6_leastOven_118 : decode cX6_leastOven 118 = .ok (.goto (-83), 3) := by decide +kernel
theorem dX6_leastOven_121 : decode cX6_leastOven 121 = .ok (.iload_n 2, 1) := by decide +kernel
theorem dX6_leastOven_122 : decode cX6_leastOven 122 = .ok (.ireturn, 1) := by decide +kernel
theorem dX6_isOrder_0 : decode cX6_isOrder 0 = .ok (.iconst 0, 1) := by decide +kernel
theorem dX6_isOrder_1 : decode cX6_isOrder 1 = .ok (.istore_n 1, 1) := by decide +kernel
theorem dX6_isOrder_2 : decode cX6_isOrder 2 = .ok (.iload_n 0, 1) := by decide +kernel
theorem dX6_isOrder_3 : decode cX6_isOrder 3 = .ok (.istore_n 2, 1) := by decide +kernel
theorem dX6_isOrder_4 : decode cX6_isOrder 4 = .ok (.iconst 0, 1) := by decide +kernel
theorem dX6_isOrder_5 : decode cX6_isOrder 5 = .ok (.istore_n 3, 1) := by decide +kernel
theorem dX6_isOrder_6 : decode cX6_isOrder 6 = .ok (.iload_n 3, 1) := by decide +kernel
theorem dX6_isOrder_7 : decode cX6_isOrder 7 = .ok (.iconst 4, 1) := by decide +kernel
theorem dX6_isOrder_8 : decode cX6_isOrder 8 = .ok (.if_icmp .ge 35, 3) := by decide +kernel
theorem dX6_isOrder_11 : decode cX6_isOrder 11 = .ok (.iload_n 1, 1) := by decide +kernel
theorem dX6_isOrder_12 : decode cX6_isOrder 12 = .ok (.iload_n 2, 1) := by decide +kernel
theorem dX6_isOrder_13 : decode cX6_isOrder 13 = .ok (.bipush 10, 2) := by decide +kernel
theorem dX6_isOrder_15 : decode cX6_isOrder 15 = .ok (.irem, 1) := by decide +kernel
theorem dX6_isOrder_16 : decode cX6_isOrder 16 = .ok (.iconst 4, 1) := by decide +kernel
theorem dX6_isOrder_17 : decode cX6_isOrder 17 = .ok (.if_icmp .ge 12, 3) := by decide +kernel
theorem dX6_isOrder_20 : decode cX6_isOrder 20 = .ok (.iconst 1, 1) := by decide +kernel
theorem dX6_isOrder_21 : decode cX6_isOrder 21 = .ok (.iload_n 2, 1) := by decide +kernel
theorem dX6_isOrder_22 : decode cX6_isOrder 22 = .ok (.bipush 10, 2) := by decide +kernel
theorem dX6_isOrder_24 : decode cX6_isOrder 24 = .ok (.irem, 1) := by decide +kernel
theorem dX6_isOrder_25 : decode cX6_isOrder 25 = .ok (.ishl, 1) := by decide +kernel
theorem dX6_isOrder_26 : decode cX6_isOrder 26 = .ok (.goto 4, 3) := by decide +kernel
theorem dX6_isOrder_29 : decode cX6_isOrder 29 = .ok (.iconst 0, 1) := by decide +kernel
theorem dX6_isOrder_30 : decode cX6_isOrder 30 = .ok (.ior, 1) := by decide +kernel
theorem dX6_isOrder_31 : decode cX6_isOrder 31 = .ok (.istore_n 1, 1) := by decide +kernel
theorem dX6_isOrder_32 : decode cX6_isOrder 32 = .ok (.iload_n 2, 1) := by decide +kernel
theorem dX6_isOrder_33 : decode cX6_isOrder 33 = .ok (.bipush 10, 2) := by decide +kernel
theorem dX6_isOrder_35 : decode cX6_isOrder 35 = .ok (.idiv, 1) := by decide +kernel
theorem dX6_isOrder_36 : decode cX6_isOrder 36 = .ok (.istore_n 2, 1) := by decide +kernel
theorem dX6_isOrder_37 : decode cX6_isOrder 37 = .ok (.iinc 3 1, 3) := by decide +kernel
theorem dX6_isOrder_40 : decode cX6_isOrder 40 = .ok (.goto (-34), 3) := by decide +kernel
theorem dX6_isOrder_43 : decode cX6_isOrder 43 = .ok (.iload_n 1, 1) := by decide +kernel
theorem dX6_isOrder_44 : decode cX6_isOrder 44 = .ok (.bipush 15, 2) := by decide +kernel
theorem dX6_isOrder_46 : decode cX6_isOrder 46 = .ok (.if_icmp .ne 7, 3) := by decide +kernel
theorem dX6_isOrder_49 : decode cX6_isOrder 49 = .ok (.iconst 1, 1) := by decide +kernel
theorem dX6_isOrder_50 : decode cX6_isOrder 50 = .ok (.goto 4, 3) := by decide +kernel
theorem dX6_isOrder_53 : decode cX6_isOrder 53 = .ok (.iconst 0, 1) := by decide +kernel
theorem dX6_isOrder_54 : decode cX6_isOrder 54 = .ok (.ireturn, 1) := by decide +kernel
theorem dX6_bestRound_0 : decode cX6_bestRound 0 = .ok (.aload_n 0, 1) := by decide +kernel
theorem dX6_bestRound_1 : decode cX6_bestRound 1 = .ok (.iload_n 1, 1) := by decide +kernel
theorem dX6_bestRound_2 : decode cX6_bestRound 2 = .ok (.i2l, 1) := by decide +kernel
theorem dX6_bestRound_3 : decode cX6_bestRound 3 = .ok (.lconst 1, 1) := by decide +kernel
theorem dX6_bestRound_4 : decode cX6_bestRound 4 = .ok (.ldc2_w 49, 3) := by decide +kernel
theorem dX6_bestRound_7 : decode cX6_bestRound 7 = .ok (.invokestatic 37, 3) := by decide +kernel
theorem dX6_bestRound_10 : decode cX6_bestRound 10 = .ok (.ifCond .eq 7, 3) := by decide +kernel
theorem dX6_bestRound_13 : decode cX6_bestRound 13 = .ok (.iconst 0, 1) := by decide +kernel
theorem dX6_bestRound_14 : decode cX6_bestRound 14 = .ok (.goto 4, 3) := by decide +kernel
theorem dX6_bestRound_17 : decode cX6_bestRound 17 = .ok (.iconst 1, 1) := by decide +kernel
theorem dX6_bestRound_18 : decode cX6_bestRound 18 = .ok (.invokevirtual 108, 3) := by decide +kernel
theorem dX6_bestRound_21 : decode cX6_bestRound 21 = .ok (.ifCond .eq 5, 3) := by decide +kernel
theorem dX6_bestRound_24 : decode cX6_bestRound 24 = .ok (.iconst 0, 1) := by decide +kernel
theorem dX6_bestRound_25 : decode cX6_bestRound 25 = .ok (.ireturn, 1) := by decide +kernel
theorem dX6_bestRound_26 : decode cX6_bestRound 26 = .ok (.iconst (-1), 1) := by decide +kernel
theorem dX6_bestRound_27 : decode cX6_bestRound 27 = .ok (.istore_n 2, 1) := by decide +kernel
theorem dX6_bestRound_28 : decode cX6_bestRound 28 = .ok (.iconst 0, 1) := by decide +kernel
theorem dX6_bestRound_29 : decode cX6_bestRound 29 = .ok (.istore_n 3, 1) := by decide +kernel
theorem dX6_bestRound_30 : decode cX6_bestRound 30 = .ok (.bipush 123, 2) := by decide +kernel
theorem dX6_bestRound_32 : decode cX6_bestRound 32 = .ok (.istore 4, 2) := by decide +kernel
theorem dX6_bestRound_34 : decode cX6_bestRound 34 = .ok (.iload 4, 2) := by decide +kernel
theorem dX6_bestRound_36 : decode cX6_bestRound 36 = .ok (.sipush 3210, 3) := by decide +kernel
theorem dX6_bestRound_39 : decode cX6_bestRound 39 = .ok (.if_icmp .gt 146, 3) := by decide +kernel
theorem dX6_bestRound_42 : decode cX6_bestRound 42 = .ok (.iload 4, 2) := by decide +kernel
theorem dX6_bestRound_44 : decode cX6_bestRound 44 = .ok (.invokestatic 230, 3) := by decide +kernel
theorem dX6_bestRound_47 : decode cX6_bestRound 47 = .ok (.ifCond .eq 132, 3) := by decide +kernel
theorem dX6_bestRound_50 : decode cX6_bestRound 50 = .ok (.aload_n 0, 1) := by decide +kernel
theorem dX6_bestRound_51 : decode cX6_bestRound 51 = .ok (.getfield 13, 3) := by decide +kernel
theorem dX6_bestRound_54 : decode cX6_bestRound 54 = .ok (.iconst 0, 1) := by decide +kernel
theorem dX6_bestRound_55 : decode cX6_bestRound 55 = .ok (.aload_n 0, 1) := by decide +kernel
theorem dX6_bestRound_56 : decode cX6_bestRound 56 = .ok (.getfield 16, 3) := by decide +kernel
theorem dX6_bestRound_59 : decode cX6_bestRound 59 = .ok (.iconst 0, 1) := by decide +kernel
theorem dX6_bestRound_60 : decode cX6_bestRound 60 = .ok (.invokestatic 183, 3) := by decide +kernel
theorem dX6_bestRound_63 : decode cX6_bestRound 63 = .ok (.aload_n 0, 1) := by decide +kernel
theorem dX6_bestRound_64 : decode cX6_bestRound 64 = .ok (.getfield 16, 3) := by decide +kernel
theorem dX6_bestRound_67 : decode cX6_bestRound 67 = .ok (.bipush 16, 2) := by decide +kernel
theorem dX6_bestRound_69 : decode cX6_bestRound 69 = .ok (.iload 4, 2) := by decide +kernel
theorem dX6_bestRound_71 : decode cX6_bestRound 71 = .ok (.sipush 1000, 3) := by decide +kernel
theorem dX6_bestRound_74 : decode cX6_bestRound 74 = .ok (.idiv, 1) := by decide +kernel
theorem dX6_bestRound_75 : decode cX6_bestRound 75 = .ok (.iastore, 1) := by decide +kernel
theorem dX6_bestRound_76 : decode cX6_bestRound 76 = .ok (.aload_n 0, 1) := by decide +kernel
theorem dX6_bestRound_77 : decode cX6_bestRound 77 = .ok (.getfield 16, 3) := by decide +kernel
theorem dX6_bestRound_80 : decode cX6_bestRound 80 = .ok (.bipush 17, 2) := by decide +kernel
theorem dX6_bestRound_82 : decode cX6_bestRound 82 = .ok (.iload 4, 2) := by decide +kernel
theorem dX6_bestRound_84 : decode cX6_bestRound 84 = .ok (.bipush 100, 2) := by decide +kernel
theorem dX6_bestRound_86 : decode cX6_bestRound 86 = .ok (.idiv, 1) := by decide +kernel
theorem dX6_bestRound_87 : decode cX6_bestRound 87 = .ok (.bipush 10, 2) := by decide +kernel
theorem dX6_bestRound_89 : decode cX6_bestRound 89 = .ok (.irem, 1) := by decide +kernel
theorem dX6_bestRound_90 : decode cX6_bestRound 90 = .ok (.iastore, 1) := by decide +kernel
theorem dX6_bestRound_91 : decode cX6_bestRound 91 = .ok (.aload_n 0, 1) := by decide +kernel
theorem dX6_bestRound_92 : decode cX6_bestRound 92 = .ok (.getfield 16, 3) := by decide +kernel
theorem dX6_bestRound_95 : decode cX6_bestRound 95 = .ok (.bipush 18, 2) := by decide +kernel
theorem dX6_bestRound_97 : decode cX6_bestRound 97 = .ok (.iload 4, 2) := by decide +kernel
theorem dX6_bestRound_99 : decode cX6_bestRound 99 = .ok (.bipush 10, 2) := by decide +kernel
theorem dX6_bestRound_101 : decode cX6_bestRound 101 = .ok (.idiv, 1) := by decide +kernel
theorem dX6_bestRound_102 : decode cX6_bestRound 102 = .ok (.bipush 10, 2) := by decide +kernel
theorem dX6_bestRound_104 : decode cX6_bestRound 104 = .ok (.irem, 1) := by decide +kernel
theorem dX6_bestRound_105 : decode cX6_bestRound 105 = .ok (.iastore, 1) := by decide +kernel
theorem dX6_bestRound_106 : decode cX6_bestRound 106 = .ok (.aload_n 0, 1) := by decide +kernel
theorem dX6_bestRound_107 : decode cX6_bestRound 107 = .ok (.getfield 16, 3) := by decide +kernel
theorem dX6_bestRound_110 : decode cX6_bestRound 110 = .ok (.bipush 19, 2) := by decide +kernel
theorem dX6_bestRound_112 : decode cX6_bestRound 112 = .ok (.iload 4, 2) := by decide +kernel
theorem dX6_bestRound_114 : decode cX6_bestRound 114 = .ok (.bipush 10, 2) := by decide +kernel
theorem dX6_bestRound_116 : decode cX6_bestRound 116 = .ok (.irem, 1) := by decide +kernel
theorem dX6_bestRound_117 : decode cX6_bestRound 117 = .ok (.iastore, 1) := by decide +kernel
theorem dX6_bestRound_118 : decode cX6_bestRound 118 = .ok (.aload_n 0, 1) := by decide +kernel
theorem dX6_bestRound_119 : decode cX6_bestRound 119 = .ok (.getfield 16, 3) := by decide +kernel
theorem dX6_bestRound_122 : decode cX6_bestRound 122 = .ok (.iload_n 1, 1) := by decide +kernel
theorem dX6_bestRound_123 : decode cX6_bestRound 123 = .ok (.invokestatic 173, 3) := by decide +kernel
theorem dX6_bestRound_126 : decode cX6_bestRound 126 = .ok (.pop, 1) := by decide +kernel
theorem dX6_bestRound_127 : decode cX6_bestRound 127 = .ok (.iload_n 2, 1) := by decide +kernel
theorem dX6_bestRound_128 : decode cX6_bestRound 128 = .ok (.iconst (-1), 1) := by decide +kernel
theorem dX6_bestRound_129 : decode cX6_bestRound 129 = .ok (.if_icmp .eq 14, 3) := by decide +kernel
theorem dX6_bestRound_132 : decode cX6_bestRound 132 = .ok (.aload_n 0, 1) := by decide +kernel
theorem dX6_bestRound_133 : decode cX6_bestRound 133 = .ok (.getfield 16, 3) := by decide +kernel
theorem dX6_bestRound_136 : decode cX6_bestRound 136 = .ok (.invokestatic 192, 3) := by decide +kernel
theorem dX6_bestRound_139 : decode cX6_bestRound 139 = .ok (.iload_n 3, 1) := by decide +kernel
theorem dX6_bestRound_140 : decode cX6_bestRound 140 = .ok (.if_icmp .ge 7, 3) := by decide +kernel
theorem dX6_bestRound_143 : decode cX6_bestRound 143 = .ok (.iconst 1, 1) := by decide +kernel
theorem dX6_bestRound_144 : decode cX6_bestRound 144 = .ok (.goto 4, 3) := by decide +kernel
theorem dX6_bestRound_147 : decode cX6_bestRound 147 = .ok (.iconst 0, 1) := by decide +kernel
theorem dX6_bestRound_148 : decode cX6_bestRound 148 = .ok (.istore 5, 2) := by decide +kernel
theorem dX6_bestRound_150 : decode cX6_bestRound 150 = .ok (.iload 5, 2) := by decide +kernel
theorem dX6_bestRound_152 : decode cX6_bestRound 152 = .ok (.ifCond .eq 8, 3) := by decide +kernel
theorem dX6_bestRound_155 : decode cX6_bestRound 155 = .ok (.iload 4, 2) := by decide +kernel
theorem dX6_bestRound_157 : decode cX6_bestRound 157 = .ok (.goto 4, 3) := by decide +kernel
theorem dX6_bestRound_160 : decode cX6_bestRound 160 = .ok (.iload_n 2, 1) := by decide +kernel
theorem dX6_bestRound_161 : decode cX6_bestRound 161 = .ok (.istore_n 2, 1) := by decide +kernel
theorem dX6_bestRound_162 : decode cX6_bestRound 162 = .ok (.iload 5, 2) := by decide +kernel
theorem dX6_bestRound_164 : decode cX6_bestRound 164 = .ok (.ifCond .eq 13, 3) := by decide +kernel
theorem dX6_bestRound_167 : decode cX6_bestRound 167 = .ok (.aload_n 0, 1) := by decide +kernel
theorem dX6_bestRound_168 : decode cX6_bestRound 168 = .ok (.getfield 16, 3) := by decide +kernel
theorem dX6_bestRound_171 : decode cX6_bestRound 171 = .ok (.invokestatic 192, 3) := by decide +kernel
theorem dX6_bestRound_174 : decode cX6_bestRound 174 = .ok (.goto 4, 3) := by decide +kernel
theorem dX6_bestRound_177 : decode cX6_bestRound 177 = .ok (.iload_n 3, 1) := by decide +kernel
theorem dX6_bestRound_178 : decode cX6_bestRound 178 = .ok (.istore_n 3, 1) := by decide +kernel
theorem dX6_bestRound_179 : decode cX6_bestRound 179 = .ok (.iinc 4 1, 3) := by decide +kernel
theorem dX6_bestRound_182 : decode cX6_bestRound 182 = .ok (.goto (-148), 3) := by decide +kernel
theorem dX6_bestRound_185 : decode cX6_bestRound 185 = .ok (.iload_n 2, 1) := by decide +kernel
theorem dX6_bestRound_186 : decode cX6_bestRound 186 = .ok (.ireturn, 1) := by decide +kernel
theorem dX6_command_0 : decode cX6_command 0 = .ok (.iload_n 2, 1) := by decide +kernel
theorem dX6_command_1 : decode cX6_command 1 = .ok (.sipush 10000, 3) := by decide +kernel
theorem dX6_command_4 : decode cX6_command 4 = .ok (.idiv, 1) := by decide +kernel
theorem dX6_command_5 : decode cX6_command 5 = .ok (.istore_n 3, 1) := by decide +kernel
theorem dX6_command_6 : decode cX6_command 6 = .ok (.iload_n 2, 1) := by decide +kernel
theorem dX6_command_7 : decode cX6_command 7 = .ok (.sipush 1000, 3) := by decide +kernel
theorem dX6_command_10 : decode cX6_command 10 = .ok (.idiv, 1) := by decide +kernel
theorem dX6_command_11 : decode cX6_command 11 = .ok (.bipush 10, 2) := by decide +kernel
theorem dX6_command_13 : decode cX6_command 13 = .ok (.irem, 1) := by decide +kernel
theorem dX6_command_14 : decode cX6_command 14 = .ok (.istore 4, 2) := by decide +kernel
theorem dX6_command_16 : decode cX6_command 16 = .ok (.iload_n 2, 1) := by decide +kernel
theorem dX6_command_17 : decode cX6_command 17 = .ok (.bipush 100, 2) := by decide +kernel
theorem dX6_command_19 : decode cX6_command 19 = .ok (.idiv, 1) := by decide +kernel
theorem dX6_command_20 : decode cX6_command 20 = .ok (.bipush 10, 2) := by decide +kernel
theorem dX6_command_22 : decode cX6_command 22 = .ok (.irem, 1) := by decide +kernel
theorem dX6_command_23 : decode cX6_command 23 = .ok (.istore 5, 2) := by decide +kernel
theorem dX6_command_25 : decode cX6_command 25 = .ok (.iload_n 2, 1) := by decide +kernel
theorem dX6_command_26 : decode cX6_command 26 = .ok (.bipush 100, 2) := by decide +kernel
theorem dX6_command_28 : decode cX6_command 28 = .ok (.irem, 1) := by decide +kernel
theorem dX6_command_29 : decode cX6_command 29 = .ok (.istore 6, 2) := by decide +kernel
theorem dX6_command_31 : decode cX6_command 31 = .ok (.iload_n 2, 1) := by decide +kernel
theorem dX6_command_32 : decode cX6_command 32 = .ok (.sipush 1000, 3) := by decide +kernel
theorem dX6_command_35 : decode cX6_command 35 = .ok (.irem, 1) := by decide +kernel
theorem dX6_command_36 : decode cX6_command 36 = .ok (.istore 7, 2) := by decide +kernel
theorem dX6_command_38 : decode cX6_command 38 = .ok (.iload_n 2, 1) := by decide +kernel
theorem dX6_command_39 : decode cX6_command 39 = .ok (.sipush 10000, 3) := by decide +kernel
theorem dX6_command_42 : decode cX6_command 42 = .ok (.irem, 1) := by decide +kernel
theorem dX6_command_43 : decode cX6_command 43 = .ok (.istore 8, 2) := by decide +kernel
theorem dX6_command_45 : decode cX6_command 45 = .ok (.iload_n 2, 1) := by decide +kernel
theorem dX6_command_46 : decode cX6_command 46 = .ok (.bipush 100, 2) := by decide +kernel
theorem dX6_command_48 : decode cX6_command 48 = .ok (.idiv, 1) := by decide +kernel
theorem dX6_command_49 : decode cX6_command 49 = .ok (.bipush 100, 2) := by decide +kernel
theorem dX6_command_51 : decode cX6_command 51 = .ok (.irem, 1) := by decide +kernel
theorem dX6_command_52 : decode cX6_command 52 = .ok (.istore 9, 2) := by decide +kernel
theorem dX6_command_54 : decode cX6_command 54 = .ok (.iload_n 1, 1) := by decide +kernel
theorem dX6_command_55 : decode cX6_command 55 = .ok (.tableswitch 408 1 9 #[49, 78, 123, 176, 227, 266, 304, 343, 380], 49) := by decide +kernel
theorem dX6_command_104 : decode cX6_command 104 = .ok (.iload_n 2, 1) := by decide +kernel
theorem dX6_command_105 : decode cX6_command 105 = .ok (.i2l, 1) := by decide +kernel
theorem dX6_command_106 : decode cX6_command 106 = .ok (.lconst 1, 1) := by decide +kernel
theorem dX6_command_107 : decode cX6_command 107 = .ok (.ldc2_w 223, 3) := by decide +kernel
theorem dX6_command_110 : decode cX6_command 110 = .ok (.invokestatic 37, 3) := by decide +kernel
theorem dX6_command_113 : decode cX6_command 113 = .ok (.ifCond .eq 18, 3) := by decide +kernel
theorem dX6_command_116 : decode cX6_command 116 = .ok (.aload_n 0, 1) := by decide +kernel
theorem dX6_command_117 : decode cX6_command 117 = .ok (.getfield 16, 3) := by decide +kernel
theorem dX6_command_120 : decode cX6_command 120 = .ok (.iload_n 2, 1) := by decide +kernel
theorem dX6_command_121 : decode cX6_command 121 = .ok (.invokestatic 173, 3) := by decide +kernel
theorem dX6_command_124 : decode cX6_command 124 = .ok (.ifCond .lt 7, 3) := by decide +kernel
theorem dX6_command_127 : decode cX6_command 127 = .ok (.iconst 1, 1) := by decide +kernel
theorem dX6_command_128 : decode cX6_command 128 = .ok (.goto 4, 3) := by decide +kernel
theorem dX6_command_131 : decode cX6_command 131 = .ok (.iconst 0, 1) := by decide +kernel
theorem dX6_command_132 : decode cX6_command 132 = .ok (.ireturn, 1) := by decide +kernel
theorem dX6_command_133 : decode cX6_command 133 = .ok (.iload 6, 2) := by decide +kernel
theorem dX6_command_135 : decode cX6_command 135 = .ok (.ifCond .ne 41, 3) := by decide +kernel
theorem dX6_command_138 : decode cX6_command 138 = .ok (.aload_n 0, 1) := by decide +kernel
theorem dX6_command_139 : decode cX6_command 139 = .ok (.getfield 16, 3) := by decide +kernel
theorem dX6_command_142 : decode cX6_command 142 = .ok (.iload_n 3, 1) := by decide +kernel
theorem dX6_command_143 : decode cX6_command 143 = .ok (.invokestatic 139, 3) := by decide +kernel
theorem dX6_command_146 : decode cX6_command 146 = .ok (.ifCond .eq 30, 3) := by decide +kernel
theorem dX6_command_149 : decode cX6_command 149 = .ok (.iload 4, 2) := by decide +kernel
theorem dX6_command_151 : decode cX6_command 151 = .ok (.invokestatic 200, 3) := by decide +kernel
theorem dX6_command_154 : decode cX6_command 154 = .ok (.ifCond .eq 22, 3) := by decide +kernel
theorem dX6_command_157 : decode cX6_command 157 = .ok (.aload_n 0, 1) := by decide +kernel
theorem dX6_command_158 : decode cX6_command 158 = .ok (.getfield 16, 3) := by decide +kernel
theorem dX6_command_161 : decode cX6_command 161 = .ok (.iload_n 3, 1) := by decide +kernel
theorem dX6_command_162 : decode cX6_command 162 = .ok (.iload 4, 2) := by decide +kernel
theorem dX6_command_164 : decode cX6_command 164 = .ok (.iload 5, 2) := by decide +kernel
theorem dX6_command_166 : decode cX6_command 166 = .ok (.invokestatic 143, 3) := by decide +kernel
theorem dX6_command_169 : decode cX6_command 169 = .ok (.ifCond .lt 7, 3) := by decide +kernel
theorem dX6_command_172 : decode cX6_command 172 = .ok (.iconst 1, 1) := by decide +kernel
theorem dX6_command_173 : decode cX6_command 173 = .ok (.goto 4, 3) := by decide +kernel
theorem dX6_command_176 : decode cX6_command 176 = .ok (.iconst 0, 1) := by decide +kernel
theorem dX6_command_177 : decode cX6_command 177 = .ok (.ireturn, 1) := by decide +kernel
theorem dX6_command_178 : decode cX6_command 178 = .ok (.aload_n 0, 1) := by decide +kernel
theorem dX6_command_179 : decode cX6_command 179 = .ok (.getfield 16, 3) := by decide +kernel
theorem dX6_command_182 : decode cX6_command 182 = .ok (.iload_n 3, 1) := by decide +kernel
theorem dX6_command_183 : decode cX6_command 183 = .ok (.invokestatic 139, 3) := by decide +kernel
theorem dX6_command_186 : decode cX6_command 186 = .ok (.ifCond .eq 43, 3) := by decide +kernel
theorem dX6_command_189 : decode cX6_command 189 = .ok (.iload 9, 2) := by decide +kernel
theorem dX6_command_191 : decode cX6_command 191 = .ok (.iload 6, 2) := by decide +kernel
theorem dX6_command_193 : decode cX6_command 193 = .ok (.if_icmp .gt 36, 3) := by decide +kernel
theorem dX6_command_196 : decode cX6_command 196 = .ok (.aload_n 0, 1) := by decide +kernel
theorem dX6_command_197 : decode cX6_command 197 = .ok (.getfield 16, 3) := by decide +kernel
theorem dX6_command_200 : decode cX6_command 200 = .ok (.iload_n 3, 1) := by decide +kernel
theorem dX6_command_201 : decode cX6_command 201 = .ok (.bipush 14, 2) := by decide +kernel
theorem dX6_command_203 : decode cX6_command 203 = .ok (.invokestatic 53, 3) := by decide +kernel
theorem dX6_command_206 : decode cX6_command 206 = .ok (.iconst 3, 1) := by decide +kernel
theorem dX6_command_207 : decode cX6_command 207 = .ok (.if_icmp .ge 22, 3) := by decide +kernel
theorem dX6_command_210 : decode cX6_command 210 = .ok (.aload_n 0, 1) := by decide +kernel
theorem dX6_command_211 : decode cX6_command 211 = .ok (.getfield 16, 3) := by decide +kernel
theorem dX6_command_214 : decode cX6_command 214 = .ok (.iload_n 3, 1) := by decide +kernel
theorem dX6_command_215 : decode cX6_command 215 = .ok (.iload 9, 2) := by decide +kernel
theorem dX6_command_217 : decode cX6_command 217 = .ok (.iload 6, 2) := by decide +kernel
theorem dX6_command_219 : decode cX6_command 219 = .ok (.invokestatic 146, 3) := by decide +kernel
theorem dX6_command_222 : decode cX6_command 222 = .ok (.ifCond .le 7, 3) := by decide +kernel
theorem dX6_command_225 : decode cX6_command 225 = .ok (.iconst 1, 1) := by decide +kernel
theorem dX6_command_226 : decode cX6_command 226 = .ok (.goto 4, 3) := by decide +kernel
theorem dX6_command_229 : decode cX6_command 229 = .ok (.iconst 0, 1) := by decide +kernel
theorem dX6_command_230 : decode cX6_command 230 = .ok (.ireturn, 1) := by decide +kernel
theorem dX6_command_231 : decode cX6_command 231 = .ok (.iload 7, 2) := by decide +kernel
theorem dX6_command_233 : decode cX6_command 233 = .ok (.iconst 2, 1) := by decide +kernel
theorem dX6_command_234 : decode cX6_command 234 = .ok (.if_icmp .ge 46, 3) := by decide +kernel
theorem dX6_command_237 : decode cX6_command 237 = .ok (.iload_n 3, 1) := by decide +kernel
theorem dX6_command_238 : decode cX6_command 238 = .ok (.invokestatic 205, 3) := by decide +kernel
theorem dX6_command_241 : decode cX6_command 241 = .ok (.ifCond .eq 39, 3) := by decide +kernel
theorem dX6_command_244 : decode cX6_command 244 = .ok (.iload 4, 2) := by decide +kernel
theorem dX6_command_246 : decode cX6_command 246 = .ok (.invokestatic 200, 3) := by decide +kernel
theorem dX6_command_249 : decode cX6_command 249 = .ok (.ifCond .eq 31, 3) := by decide +kernel
theorem dX6_command_252 : decode cX6_command 252 = .ok (.aload_n 0, 1) := by decide +kernel
theorem dX6_command_253 : decode cX6_command 253 = .ok (.getfield 16, 3) := by decide +kernel
theorem dX6_command_256 : decode cX6_command 256 = .ok (.iload_n 3, 1) := by decide +kernel
theorem dX6_command_257 : decode cX6_command 257 = .ok (.iload 4, 2) := by decide +kernel
theorem dX6_command_259 : decode cX6_command 259 = .ok (.iload 7, 2) := by decide +kernel
theorem dX6_command_261 : decode cX6_command 261 = .ok (.iconst 1, 1) := by decide +kernel
theorem dX6_command_262 : decode cX6_command 262 = .ok (.if_icmp .ne 7, 3) := by decide +kernel
theorem dX6_command_265 : decode cX6_command 265 = .ok (.iconst 1, 1) := by decide +kernel
theorem dX6_command_266 : decode cX6_command 266 = .ok (.goto 4, 3) := by decide +kernel
theorem dX6_command_269 : decode cX6_command 269 = .ok (.iconst 0, 1) := by decide +kernel
theorem dX6_command_270 : decode cX6_command 270 = .ok (.invokestatic 149, 3) := by decide +kernel
theorem dX6_command_273 : decode cX6_command 273 = .ok (.ifCond .lt 7, 3) := by decide +kernel
theorem dX6_command_276 : decode cX6_command 276 = .ok (.iconst 1, 1) := by decide +kernel
theorem dX6_command_277 : decode cX6_command 277 = .ok (.goto 4, 3) := by decide +kernel
theorem dX6_command_280 : decode cX6_command 280 = .ok (.iconst 0, 1) := by decide +kernel
theorem dX6_command_281 : decode cX6_command 281 = .ok (.ireturn, 1) := by decide +kernel
theorem dX6_command_282 : decode cX6_command 282 = .ok (.iload 7, 2) := by decide +kernel
theorem dX6_command_284 : decode cX6_command 284 = .ok (.ifCond .ne 35, 3) := by decide +kernel
theorem dX6_command_287 : decode cX6_command 287 = .ok (.iload_n 3, 1) := by decide +kernel
theorem dX6_command_288 : decode cX6_command 288 = .ok (.invokestatic 205, 3) := by decide +kernel
theorem dX6_command_291 : decode cX6_command 291 = .ok (.ifCond .eq 28, 3) := by decide +kernel
theorem dX6_command_294 : decode cX6_command 294 = .ok (.iload 4, 2) := by decide +kernel
theorem dX6_command_296 : decode cX6_command 296 = .ok (.invokestatic 205, 3) := by decide +kernel
theorem dX6_command_299 : decode cX6_command 299 = .ok (.ifCond .eq 20, 3) := by decide +kernel
theorem dX6_command_302 : decode cX6_command 302 = .ok (.aload_n 0, 1) := by decide +kernel
theorem dX6_command_303 : decode cX6_command 303 = .ok (.getfield 16, 3) := by decide +kernel
theorem dX6_command_306 : decode cX6_command 306 = .ok (.iload_n 3, 1) := by decide +kernel
theorem dX6_command_307 : decode cX6_command 307 = .ok (.iload 4, 2) := by decide +kernel
theorem dX6_command_309 : decode cX6_command 309 = .ok (.invokestatic 166, 3) := by decide +kernel
theorem dX6_command_312 : decode cX6_command 312 = .ok (.ifCond .lt 7, 3) := by decide +kernel
theorem dX6_command_315 : decode cX6_command 315 = .ok (.iconst 1, 1) := by decide +kernel
theorem dX6_command_316 : decode cX6_command 316 = .ok (.goto 4, 3) := by decide +kernel
theorem dX6_command_319 : decode cX6_command 319 = .ok (.iconst 0, 1) := by decide +kernel
theorem dX6_command_320 : decode cX6_command 320 = .ok (.ireturn, 1) := by decide +kernel
theorem dX6_command_321 : decode cX6_command 321 = .ok (.iload 8, 2) := by decide +kernel
theorem dX6_command_323 : decode cX6_command 323 = .ok (.bipush 100, 2) := by decide +kernel
theorem dX6_command_325 : decode cX6_command 325 = .ok (.if_icmp .ge 32, 3) := by decide +kernel
theorem dX6_command_328 : decode cX6_command 328 = .ok (.iload_n 3, 1) := by decide +kernel
theorem dX6_command_329 : decode cX6_command 329 = .ok (.iload 8, 2) := by decide +kernel
theorem dX6_command_331 : decode cX6_command 331 = .ok (.invokestatic 169, 3) := by decide +kernel
theorem dX6_command_334 : decode cX6_command 334 = .ok (.ifCond .eq 23, 3) := by decide +kernel
theorem dX6_command_337 : decode cX6_command 337 = .ok (.aload_n 0, 1) := by decide +kernel
theorem dX6_command_338 : decode cX6_command 338 = .ok (.getfield 16, 3) := by decide +kernel
theorem dX6_command_341 : decode cX6_command 341 = .ok (.bipush 11, 2) := by decide +kernel
theorem dX6_command_343 : decode cX6_command 343 = .ok (.iload_n 3, 1) := by decide +kernel
theorem dX6_command_344 : decode cX6_command 344 = .ok (.iadd, 1) := by decide +kernel
theorem dX6_command_345 : decode cX6_command 345 = .ok (.iload 8, 2) := by decide +kernel
theorem dX6_command_347 : decode cX6_command 347 = .ok (.invokestatic 95, 3) := by decide +kernel
theorem dX6_command_350 : decode cX6_command 350 = .ok (.ifCond .lt 7, 3) := by decide +kernel
theorem dX6_command_353 : decode cX6_command 353 = .ok (.iconst 1, 1) := by decide +kernel
theorem dX6_command_354 : decode cX6_command 354 = .ok (.goto 4, 3) := by decide +kernel
theorem dX6_command_357 : decode cX6_command 357 = .ok (.iconst 0, 1) := by decide +kernel
theorem dX6_command_358 : decode cX6_command 358 = .ok (.ireturn, 1) := by decide +kernel
theorem dX6_command_359 : decode cX6_command 359 = .ok (.iload 8, 2) := by decide +kernel
theorem dX6_command_361 : decode cX6_command 361 = .ok (.bipush 100, 2) := by decide +kernel
theorem dX6_command_363 : decode cX6_command 363 = .ok (.if_icmp .ge 33, 3) := by decide +kernel
theorem dX6_command_366 : decode cX6_command 366 = .ok (.aload_n 0, 1) := by decide +kernel
theorem dX6_command_367 : decode cX6_command 367 = .ok (.getfield 16, 3) := by decide +kernel
theorem dX6_command_370 : decode cX6_command 370 = .ok (.iload_n 3, 1) := by decide +kernel
theorem dX6_command_371 : decode cX6_command 371 = .ok (.invokestatic 139, 3) := by decide +kernel
theorem dX6_command_374 : decode cX6_command 374 = .ok (.ifCond .eq 22, 3) := by decide +kernel
theorem dX6_command_377 : decode cX6_command 377 = .ok (.aload_n 0, 1) := by decide +kernel
theorem dX6_command_378 : decode cX6_command 378 = .ok (.getfield 16, 3) := by decide +kernel
theorem dX6_command_381 : decode cX6_command 381 = .ok (.iload_n 3, 1) := by decide +kernel
theorem dX6_command_382 : decode cX6_command 382 = .ok (.bipush 8, 2) := by decide +kernel
theorem dX6_command_384 : decode cX6_command 384 = .ok (.invokestatic 53, 3) := by decide +kernel
theorem dX6_command_387 : decode cX6_command 387 = .ok (.iload 8, 2) := by decide +kernel
theorem dX6_command_389 : decode cX6_command 389 = .ok (.if_icmp .gt 7, 3) := by decide +kernel
theorem dX6_command_392 : decode cX6_command 392 = .ok (.iconst 1, 1) := by decide +kernel
theorem dX6_command_393 : decode cX6_command 393 = .ok (.goto 4, 3) := by decide +kernel
theorem dX6_command_396 : decode cX6_command 396 = .ok (.iconst 0, 1) := by decide +kernel
theorem dX6_command_397 : decode cX6_command 397 = .ok (.ireturn, 1) := by decide +kernel
theorem dX6_command_398 : decode cX6_command 398 = .ok (.iload 8, 2) := by decide +kernel
theorem dX6_command_400 : decode cX6_command 400 = .ok (.bipush 10, 2) := by decide +kernel
theorem dX6_command_402 : decode cX6_command 402 = .ok (.if_icmp .ge 31, 3) := by decide +kernel
theorem dX6_command_405 : decode cX6_command 405 = .ok (.aload_n 0, 1) := by decide +kernel
theorem dX6_command_406 : decode cX6_command 406 = .ok (.getfield 16, 3) := by decide +kernel
theorem dX6_command_409 : decode cX6_command 409 = .ok (.iload_n 3, 1) := by decide +kernel
theorem dX6_command_410 : decode cX6_command 410 = .ok (.invokestatic 139, 3) := by decide +kernel
theorem dX6_command_413 : decode cX6_command 413 = .ok (.ifCond .eq 20, 3) := by decide +kernel
theorem dX6_command_416 : decode cX6_command 416 = .ok (.aload_n 0, 1) := by decide +kernel
theorem dX6_command_417 : decode cX6_command 417 = .ok (.getfield 16, 3) := by decide +kernel
theorem dX6_command_420 : decode cX6_command 420 = .ok (.iload_n 3, 1) := by decide +kernel
theorem dX6_command_421 : decode cX6_command 421 = .ok (.invokestatic 225, 3) := by decide +kernel
theorem dX6_command_424 : decode cX6_command 424 = .ok (.iload 8, 2) := by decide +kernel
theorem dX6_command_426 : decode cX6_command 426 = .ok (.if_icmp .ne 7, 3) := by decide +kernel
theorem dX6_command_429 : decode cX6_command 429 = .ok (.iconst 1, 1) := by decide +kernel
theorem dX6_command_430 : decode cX6_command 430 = .ok (.goto 4, 3) := by decide +kernel
theorem dX6_command_433 : decode cX6_command 433 = .ok (.iconst 0, 1) := by decide +kernel
theorem dX6_command_434 : decode cX6_command 434 = .ok (.ireturn, 1) := by decide +kernel
theorem dX6_command_435 : decode cX6_command 435 = .ok (.iload_n 3, 1) := by decide +kernel
theorem dX6_command_436 : decode cX6_command 436 = .ok (.ifCond .ne 25, 3) := by decide +kernel
theorem dX6_command_439 : decode cX6_command 439 = .ok (.aload_n 0, 1) := by decide +kernel
theorem dX6_command_440 : decode cX6_command 440 = .ok (.getfield 16, 3) := by decide +kernel
theorem dX6_command_443 : decode cX6_command 443 = .ok (.iconst 3, 1) := by decide +kernel
theorem dX6_command_444 : decode cX6_command 444 = .ok (.iaload, 1) := by decide +kernel
theorem dX6_command_445 : decode cX6_command 445 = .ok (.aload_n 0, 1) := by decide +kernel
theorem dX6_command_446 : decode cX6_command 446 = .ok (.getfield 16, 3) := by decide +kernel
theorem dX6_command_449 : decode cX6_command 449 = .ok (.iconst 4, 1) := by decide +kernel
theorem dX6_command_450 : decode cX6_command 450 = .ok (.iaload, 1) := by decide +kernel
theorem dX6_command_451 : decode cX6_command 451 = .ok (.iadd, 1) := by decide +kernel
theorem dX6_command_452 : decode cX6_command 452 = .ok (.iload 8, 2) := by decide +kernel
theorem dX6_command_454 : decode cX6_command 454 = .ok (.if_icmp .lt 7, 3) := by decide +kernel
theorem dX6_command_457 : decode cX6_command 457 = .ok (.iconst 1, 1) := by decide +kernel
theorem dX6_command_458 : decode cX6_command 458 = .ok (.goto 4, 3) := by decide +kernel
theorem dX6_command_461 : decode cX6_command 461 = .ok (.iconst 0, 1) := by decide +kernel
theorem dX6_command_462 : decode cX6_command 462 = .ok (.ireturn, 1) := by decide +kernel
theorem dX6_command_463 : decode cX6_command 463 = .ok (.iconst 0, 1) := by decide +kernel
theorem dX6_command_464 : decode cX6_command 464 = .ok (.ireturn, 1) := by decide +kernel
theorem dX6_runScript_0 : decode cX6_runScript 0 = .ok (.lconst 1, 1) := by decide +kernel
theorem dX6_runScript_1 : decode cX6_runScript 1 = .ok (.lstore 4, 2) := by decide +kernel
theorem dX6_runScript_3 : decode cX6_runScript 3 = .ok (.iconst 0, 1) := by decide +kernel
theorem dX6_runScript_4 : decode cX6_runScript 4 = .ok (.istore 6, 2) := by decide +kernel
theorem dX6_runScript_6 : decode cX6_runScript 6 = .ok (.iload 6, 2) := by decide +kernel
theorem dX6_runScript_8 : decode cX6_runScript 8 = .ok (.iload_n 1, 1) := by decide +kernel
theorem dX6_runScript_9 : decode cX6_runScript 9 = .ok (.if_icmp .ge 23, 3) := by decide +kernel
theorem dX6_runScript_12 : decode cX6_runScript 12 = .ok (.iload 6, 2) := by decide +kernel
theorem dX6_runScript_14 : decode cX6_runScript 14 = .ok (.iconst 3, 1) := by decide +kernel
theorem dX6_runScript_15 : decode cX6_runScript 15 = .ok (.if_icmp .ge 17, 3) := by decide +kernel
theorem dX6_runScript_18 : decode cX6_runScript 18 = .ok (.lload 4, 2) := by decide +kernel
theorem dX6_runScript_20 : decode cX6_runScript 20 = .ok (.ldc2_w 233, 3) := by decide +kernel
theorem dX6_runScript_23 : decode cX6_runScript 23 = .ok (.lmul, 1) := by decide +kernel
theorem dX6_runScript_24 : decode cX6_runScript 24 = .ok (.lstore 4, 2) := by decide +kernel
theorem dX6_runScript_26 : decode cX6_runScript 26 = .ok (.iinc 6 1, 3) := by decide +kernel
theorem dX6_runScript_29 : decode cX6_runScript 29 = .ok (.goto (-23), 3) := by decide +kernel
theorem dX6_runScript_32 : decode cX6_runScript 32 = .ok (.aload_n 0, 1) := by decide +kernel
theorem dX6_runScript_33 : decode cX6_runScript 33 = .ok (.iload_n 1, 1) := by decide +kernel
theorem dX6_runScript_34 : decode cX6_runScript 34 = .ok (.i2l, 1) := by decide +kernel
theorem dX6_runScript_35 : decode cX6_runScript 35 = .ok (.lconst 1, 1) := by decide +kernel
theorem dX6_runScript_36 : decode cX6_runScript 36 = .ok (.ldc2_w 41, 3) := by decide +kernel
theorem dX6_runScript_39 : decode cX6_runScript 39 = .ok (.invokestatic 37, 3) := by decide +kernel
theorem dX6_runScript_42 : decode cX6_runScript 42 = .ok (.ifCond .eq 19, 3) := by decide +kernel
theorem dX6_runScript_45 : decode cX6_runScript 45 = .ok (.lload_n 2, 1) := by decide +kernel
theorem dX6_runScript_46 : decode cX6_runScript 46 = .ok (.lconst 0, 1) := by decide +kernel
theorem dX6_runScript_47 : decode cX6_runScript 47 = .ok (.lload 4, 2) := by decide +kernel
theorem dX6_runScript_49 : decode cX6_runScript 49 = .ok (.lconst 1, 1) := by decide +kernel
theorem dX6_runScript_50 : decode cX6_runScript 50 = .ok (.lsub, 1) := by decide +kernel
theorem dX6_runScript_51 : decode cX6_runScript 51 = .ok (.invokestatic 37, 3) := by decide +kernel
theorem dX6_runScript_54 : decode cX6_runScript 54 = .ok (.ifCond .eq 7, 3) := by decide +kernel
theorem dX6_runScript_57 : decode cX6_runScript 57 = .ok (.iconst 0, 1) := by decide +kernel
theorem dX6_runScript_58 : decode cX6_runScript 58 = .ok (.goto 4, 3) := by decide +kernel
theorem dX6_runScript_61 : decode cX6_runScript 61 = .ok (.iconst 1, 1) := by decide +kernel
theorem dX6_runScript_62 : decode cX6_runScript 62 = .ok (.invokevirtual 108, 3) := by decide +kernel
theorem dX6_runScript_65 : decode cX6_runScript 65 = .ok (.ifCond .eq 5, 3) := by decide +kernel
theorem dX6_runScript_68 : decode cX6_runScript 68 = .ok (.iconst 0, 1) := by decide +kernel
theorem dX6_runScript_69 : decode cX6_runScript 69 = .ok (.ireturn, 1) := by decide +kernel
theorem dX6_runScript_70 : decode cX6_runScript 70 = .ok (.aload_n 0, 1) := by decide +kernel
theorem dX6_runScript_71 : decode cX6_runScript 71 = .ok (.getfield 13, 3) := by decide +kernel
theorem dX6_runScript_74 : decode cX6_runScript 74 = .ok (.iconst 0, 1) := by decide +kernel
theorem dX6_runScript_75 : decode cX6_runScript 75 = .ok (.aload_n 0, 1) := by decide +kernel
theorem dX6_runScript_76 : decode cX6_runScript 76 = .ok (.getfield 16, 3) := by decide +kernel
theorem dX6_runScript_79 : decode cX6_runScript 79 = .ok (.iconst 0, 1) := by decide +kernel
theorem dX6_runScript_80 : decode cX6_runScript 80 = .ok (.invokestatic 183, 3) := by decide +kernel
theorem dX6_runScript_83 : decode cX6_runScript 83 = .ok (.iconst 0, 1) := by decide +kernel
theorem dX6_runScript_84 : decode cX6_runScript 84 = .ok (.istore 6, 2) := by decide +kernel
theorem dX6_runScript_86 : decode cX6_runScript 86 = .ok (.iload 6, 2) := by decide +kernel
theorem dX6_runScript_88 : decode cX6_runScript 88 = .ok (.iload_n 1, 1) := by decide +kernel
theorem dX6_runScript_89 : decode cX6_runScript 89 = .ok (.if_icmp .ge 48, 3) := by decide +kernel
theorem dX6_runScript_92 : decode cX6_runScript 92 = .ok (.lload 4, 2) := by decide +kernel
theorem dX6_runScript_94 : decode cX6_runScript 94 = .ok (.ldc2_w 233, 3) := by decide +kernel
theorem dX6_runScript_97 : decode cX6_runScript 97 = .ok (.ldiv, 1) := by decide +kernel
theorem dX6_runScript_98 : decode cX6_runScript 98 = .ok (.lstore 4, 2) := by decide +kernel
theorem dX6_runScript_100 : decode cX6_runScript 100 = .ok (.lload_n 2, 1) := by decide +kernel
theorem dX6_runScript_101 : decode cX6_runScript 101 = .ok (.lload 4, 2) := by decide +kernel
theorem dX6_runScript_103 : decode cX6_runScript 103 = .ok (.ldiv, 1) := by decide +kernel
theorem dX6_runScript_104 : decode cX6_runScript 104 = .ok (.ldc2_w 233, 3) := by decide +kernel
theorem dX6_runScript_107 : decode cX6_runScript 107 = .ok (.lrem, 1) := by decide +kernel
theorem dX6_runScript_108 : decode cX6_runScript 108 = .ok (.l2i, 1) := by decide +kernel
theorem dX6_runScript_109 : decode cX6_runScript 109 = .ok (.istore 7, 2) := by decide +kernel
theorem dX6_runScript_111 : decode cX6_runScript 111 = .ok (.aload_n 0, 1) := by decide +kernel
theorem dX6_runScript_112 : decode cX6_runScript 112 = .ok (.iload 7, 2) := by decide +kernel
theorem dX6_runScript_114 : decode cX6_runScript 114 = .ok (.ldc 235, 2) := by decide +kernel
theorem dX6_runScript_116 : decode cX6_runScript 116 = .ok (.idiv, 1) := by decide +kernel
theorem dX6_runScript_117 : decode cX6_runScript 117 = .ok (.iload 7, 2) := by decide +kernel
theorem dX6_runScript_119 : decode cX6_runScript 119 = .ok (.ldc 235, 2) := by decide +kernel
theorem dX6_runScript_121 : decode cX6_runScript 121 = .ok (.irem, 1) := by decide +kernel
theorem dX6_runScript_122 : decode cX6_runScript 122 = .ok (.invokevirtual 236, 3) := by decide +kernel
theorem dX6_runScript_125 : decode cX6_runScript 125 = .ok (.ifCond .ne 6, 3) := by decide +kernel
theorem dX6_runScript_128 : decode cX6_runScript 128 = .ok (.iload 6, 2) := by decide +kernel
theorem dX6_runScript_130 : decode cX6_runScript 130 = .ok (.ireturn, 1) := by decide +kernel
theorem dX6_runScript_131 : decode cX6_runScript 131 = .ok (.iinc 6 1, 3) := by decide +kernel
theorem dX6_runScript_134 : decode cX6_runScript 134 = .ok (.goto (-48), 3) := by decide +kernel
theorem dX6_runScript_137 : decode cX6_runScript 137 = .ok (.iconst (-1), 1) := by decide +kernel
theorem dX6_runScript_138 : decode cX6_runScript 138 = .ok (.ireturn, 1) := by decide +kernel
theorem dX6_turnCustomer_0 : decode cX6_turnCustomer 0 = .ok (.iload_n 2, 1) := by decide +kernel
theorem dX6_turnCustomer_1 : decode cX6_turnCustomer 1 = .ok (.bipush 10, 2) := by decide +kernel
theorem dX6_turnCustomer_3 : decode cX6_turnCustomer 3 = .ok (.irem, 1) := by decide +kernel
theorem dX6_turnCustomer_4 : decode cX6_turnCustomer 4 = .ok (.istore_n 3, 1) := by decide +kernel
theorem dX6_turnCustomer_5 : decode cX6_turnCustomer 5 = .ok (.iload_n 1, 1) := by decide +kernel
theorem dX6_turnCustomer_6 : decode cX6_turnCustomer 6 = .ok (.ifCond .ne 28, 3) := by decide +kernel
theorem dX6_turnCustomer_9 : decode cX6_turnCustomer 9 = .ok (.aload_n 0, 1) := by decide +kernel
theorem dX6_turnCustomer_10 : decode cX6_turnCustomer 10 = .ok (.iconst 0, 1) := by decide +kernel
theorem dX6_turnCustomer_11 : decode cX6_turnCustomer 11 = .ok (.iaload, 1) := by decide +kernel
theorem dX6_turnCustomer_12 : decode cX6_turnCustomer 12 = .ok (.bipush 10, 2) := by decide +kernel
theorem dX6_turnCustomer_14 : decode cX6_turnCustomer 14 = .ok (.if_icmp .ge 120, 3) := by decide +kernel
theorem dX6_turnCustomer_17 : decode cX6_turnCustomer 17 = .ok (.aload_n 0, 1) := by decide +kernel
theorem dX6_turnCustomer_18 : decode cX6_turnCustomer 18 = .ok (.iload_n 2, 1) := by decide +kernel
theorem dX6_turnCustomer_19 : decode cX6_turnCustomer 19 = .ok (.iconst 4, 1) := by decide +kernel
theorem dX6_turnCustomer_20 : decode cX6_turnCustomer 20 = .ok (.irem, 1) := by decide +kernel
theorem dX6_turnCustomer_21 : decode cX6_turnCustomer 21 = .ok (.iload_n 2, 1) := by decide +kernel
theorem dX6_turnCustomer_22 : decode cX6_turnCustomer 22 = .ok (.iconst 4, 1) := by decide +kernel
theorem dX6_turnCustomer_23 : decode cX6_turnCustomer 23 = .ok (.idiv, 1) := by decide +kernel
theorem dX6_turnCustomer_24 : decode cX6_turnCustomer 24 = .ok (.ldc 239, 2) := by decide +kernel
theorem dX6_turnCustomer_26 : decode cX6_turnCustomer 26 = .ok (.irem, 1) := by decide +kernel
theorem dX6_turnCustomer_27 : decode cX6_turnCustomer 27 = .ok (.invokestatic 128, 3) := by decide +kernel
theorem dX6_turnCustomer_30 : decode cX6_turnCustomer 30 = .ok (.pop, 1) := by decide +kernel
theorem dX6_turnCustomer_31 : decode cX6_turnCustomer 31 = .ok (.goto 103, 3) := by decide +kernel
theorem dX6_turnCustomer_34 : decode cX6_turnCustomer 34 = .ok (.aload_n 0, 1) := by decide +kernel
theorem dX6_turnCustomer_35 : decode cX6_turnCustomer 35 = .ok (.iload_n 3, 1) := by decide +kernel
theorem dX6_turnCustomer_36 : decode cX6_turnCustomer 36 = .ok (.invokestatic 139, 3) := by decide +kernel
theorem dX6_turnCustomer_39 : decode cX6_turnCustomer 39 = .ok (.ifCond .ne 4, 3) := by decide +kernel
theorem dX6_turnCustomer_42 : decode cX6_turnCustomer 42 = .ok (.return_, 1) := by decide +kernel
theorem dX6_turnCustomer_43 : decode cX6_turnCustomer 43 = .ok (.iload_n 1, 1) := by decide +kernel
theorem dX6_turnCustomer_44 : decode cX6_turnCustomer 44 = .ok (.iconst 1, 1) := by decide +kernel
theorem dX6_turnCustomer_45 : decode cX6_turnCustomer 45 = .ok (.if_icmp .ne 27, 3) := by decide +kernel
theorem dX6_turnCustomer_48 : decode cX6_turnCustomer 48 = .ok (.aload_n 0, 1) := by decide +kernel
theorem dX6_turnCustomer_49 : decode cX6_turnCustomer 49 = .ok (.iload_n 3, 1) := by decide +kernel
theorem dX6_turnCustomer_50 : decode cX6_turnCustomer 50 = .ok (.iload_n 2, 1) := by decide +kernel
theorem dX6_turnCustomer_51 : decode cX6_turnCustomer 51 = .ok (.bipush 16, 2) := by decide +kernel
theorem dX6_turnCustomer_53 : decode cX6_turnCustomer 53 = .ok (.idiv, 1) := by decide +kernel
theorem dX6_turnCustomer_54 : decode cX6_turnCustomer 54 = .ok (.bipush 7, 2) := by decide +kernel
theorem dX6_turnCustomer_56 : decode cX6_turnCustomer 56 = .ok (.irem, 1) := by decide +kernel
theorem dX6_turnCustomer_57 : decode cX6_turnCustomer 57 = .ok (.iload_n 2, 1) := by decide +kernel
theorem dX6_turnCustomer_58 : decode cX6_turnCustomer 58 = .ok (.sipush 128, 3) := by decide +kernel
theorem dX6_turnCustomer_61 : decode cX6_turnCustomer 61 = .ok (.idiv, 1) := by decide +kernel
theorem dX6_turnCustomer_62 : decode cX6_turnCustomer 62 = .ok (.bipush 10, 2) := by decide +kernel
theorem dX6_turnCustomer_64 : decode cX6_turnCustomer 64 = .ok (.irem, 1) := by decide +kernel
theorem dX6_turnCustomer_65 : decode cX6_turnCustomer 65 = .ok (.invokestatic 143, 3) := by decide +kernel
theorem dX6_turnCustomer_68 : decode cX6_turnCustomer 68 = .ok (.pop, 1) := by decide +kernel
theorem dX6_turnCustomer_69 : decode cX6_turnCustomer 69 = .ok (.goto 65, 3) := by decide +kernel
theorem dX6_turnCustomer_72 : decode cX6_turnCustomer 72 = .ok (.aload_n 0, 1) := by decide +kernel
theorem dX6_turnCustomer_73 : decode cX6_turnCustomer 73 = .ok (.iconst 1, 1) := by decide +kernel
theorem dX6_turnCustomer_74 : decode cX6_turnCustomer 74 = .ok (.iaload, 1) := by decide +kernel
theorem dX6_turnCustomer_75 : decode cX6_turnCustomer 75 = .ok (.iload_n 2, 1) := by decide +kernel
theorem dX6_turnCustomer_76 : decode cX6_turnCustomer 76 = .ok (.bipush 16, 2) := by decide +kernel
theorem dX6_turnCustomer_78 : decode cX6_turnCustomer 78 = .ok (.idiv, 1) := by decide +kernel
theorem dX6_turnCustomer_79 : decode cX6_turnCustomer 79 = .ok (.bipush 20, 2) := by decide +kernel
theorem dX6_turnCustomer_81 : decode cX6_turnCustomer 81 = .ok (.irem, 1) := by decide +kernel
theorem dX6_turnCustomer_82 : decode cX6_turnCustomer 82 = .ok (.iadd, 1) := by decide +kernel
theorem dX6_turnCustomer_83 : decode cX6_turnCustomer 83 = .ok (.istore 4, 2) := by decide +kernel
theorem dX6_turnCustomer_85 : decode cX6_turnCustomer 85 = .ok (.iload 4, 2) := by decide +kernel
theorem dX6_turnCustomer_87 : decode cX6_turnCustomer 87 = .ok (.iload 4, 2) := by decide +kernel
theorem dX6_turnCustomer_89 : decode cX6_turnCustomer 89 = .ok (.iload_n 2, 1) := by decide +kernel
theorem dX6_turnCustomer_90 : decode cX6_turnCustomer 90 = .ok (.sipush 512, 3) := by decide +kernel
theorem dX6_turnCustomer_93 : decode cX6_turnCustomer 93 = .ok (.idiv, 1) := by decide +kernel
theorem dX6_turnCustomer_94 : decode cX6_turnCustomer 94 = .ok (.bipush 9, 2) := by decide +kernel
theorem dX6_turnCustomer_96 : decode cX6_turnCustomer 96 = .ok (.irem, 1) := by decide +kernel
theorem dX6_turnCustomer_97 : decode cX6_turnCustomer 97 = .ok (.iadd, 1) := by decide +kernel
theorem dX6_turnCustomer_98 : decode cX6_turnCustomer 98 = .ok (.invokestatic 217, 3) := by decide +kernel
theorem dX6_turnCustomer_101 : decode cX6_turnCustomer 101 = .ok (.ifCond .eq 33, 3) := by decide +kernel
theorem dX6_turnCustomer_104 : decode cX6_turnCustomer 104 = .ok (.aload_n 0, 1) := by decide +kernel
theorem dX6_turnCustomer_105 : decode cX6_turnCustomer 105 = .ok (.iload_n 3, 1) := by decide +kernel
theorem dX6_turnCustomer_106 : decode cX6_turnCustomer 106 = .ok (.bipush 14, 2) := by decide +kernel
theorem dX6_turnCustomer_108 : decode cX6_turnCustomer 108 = .ok (.invokestatic 53, 3) := by decide +kernel
theorem dX6_turnCustomer_111 : decode cX6_turnCustomer 111 = .ok (.iconst 3, 1) := by decide +kernel
theorem dX6_turnCustomer_112 : decode cX6_turnCustomer 112 = .ok (.if_icmp .ge 22, 3) := by decide +kernel
theorem dX6_turnCustomer_115 : decode cX6_turnCustomer 115 = .ok (.aload_n 0, 1) := by decide +kernel
theorem dX6_turnCustomer_116 : decode cX6_turnCustomer 116 = .ok (.iload_n 3, 1) := by decide +kernel
theorem dX6_turnCustomer_117 : decode cX6_turnCustomer 117 = .ok (.iload 4, 2) := by decide +kernel
theorem dX6_turnCustomer_119 : decode cX6_turnCustomer 119 = .ok (.iload 4, 2) := by decide +kernel
theorem dX6_turnCustomer_121 : decode cX6_turnCustomer 121 = .ok (.iload_n 2, 1) := by decide +kernel
theorem dX6_turnCustomer_122 : decode cX6_turnCustomer 122 = .ok (.sipush 512, 3) := by decide +kernel
theorem dX6_turnCustomer_125 : decode cX6_turnCustomer 125 = .ok (.idiv, 1) := by decide +kernel
theorem dX6_turnCustomer_126 : decode cX6_turnCustomer 126 = .ok (.bipush 9, 2) := by decide +kernel
theorem dX6_turnCustomer_128 : decode cX6_turnCustomer 128 = .ok (.irem, 1) := by decide +kernel
theorem dX6_turnCustomer_129 : decode cX6_turnCustomer 129 = .ok (.iadd, 1) := by decide +kernel
theorem dX6_turnCustomer_130 : decode cX6_turnCustomer 130 = .ok (.invokestatic 146, 3) := by decide +kernel
theorem dX6_turnCustomer_133 : decode cX6_turnCustomer 133 = .ok (.pop, 1) := by decide +kernel
theorem dX6_turnCustomer_134 : decode cX6_turnCustomer 134 = .ok (.return_, 1) := by decide +kernel
theorem dX6_turnOf_0 : decode cX6_turnOf 0 = .ok (.iload_n 1, 1) := by decide +kernel
theorem dX6_turnOf_1 : decode cX6_turnOf 1 = .ok (.iconst 3, 1) := by decide +kernel
theorem dX6_turnOf_2 : decode cX6_turnOf 2 = .ok (.if_icmp .ge 12, 3) := by decide +kernel
theorem dX6_turnOf_5 : decode cX6_turnOf 5 = .ok (.aload_n 0, 1) := by decide +kernel
theorem dX6_turnOf_6 : decode cX6_turnOf 6 = .ok (.iload_n 1, 1) := by decide +kernel
theorem dX6_turnOf_7 : decode cX6_turnOf 7 = .ok (.iload_n 2, 1) := by decide +kernel
theorem dX6_turnOf_8 : decode cX6_turnOf 8 = .ok (.invokestatic 240, 3) := by decide +kernel
theorem dX6_turnOf_11 : decode cX6_turnOf 11 = .ok (.goto 131, 3) := by decide +kernel
theorem dX6_turnOf_14 : decode cX6_turnOf 14 = .ok (.iload_n 1, 1) := by decide +kernel
theorem dX6_turnOf_15 : decode cX6_turnOf 15 = .ok (.iconst 3, 1) := by decide +kernel
theorem dX6_turnOf_16 : decode cX6_turnOf 16 = .ok (.if_icmp .ne 34, 3) := by decide +kernel
theorem dX6_turnOf_19 : decode cX6_turnOf 19 = .ok (.aload_n 0, 1) := by decide +kernel
theorem dX6_turnOf_20 : decode cX6_turnOf 20 = .ok (.iload_n 2, 1) := by decide +kernel
theorem dX6_turnOf_21 : decode cX6_turnOf 21 = .ok (.iconst 4, 1) := by decide +kernel
theorem dX6_turnOf_22 : decode cX6_turnOf 22 = .ok (.irem, 1) := by decide +kernel
theorem dX6_turnOf_23 : decode cX6_turnOf 23 = .ok (.iload_n 2, 1) := by decide +kernel
theorem dX6_turnOf_24 : decode cX6_turnOf 24 = .ok (.iconst 4, 1) := by decide +kernel
theorem dX6_turnOf_25 : decode cX6_turnOf 25 = .ok (.idiv, 1) := by decide +kernel
theorem dX6_turnOf_26 : decode cX6_turnOf 26 = .ok (.bipush 7, 2) := by decide +kernel
theorem dX6_turnOf_28 : decode cX6_turnOf 28 = .ok (.irem, 1) := by decide +kernel
theorem dX6_turnOf_29 : decode cX6_turnOf 29 = .ok (.iload_n 2, 1) := by decide +kernel
theorem dX6_turnOf_30 : decode cX6_turnOf 30 = .ok (.bipush 32, 2) := by decide +kernel
theorem dX6_turnOf_32 : decode cX6_turnOf 32 = .ok (.idiv, 1) := by decide +kernel
theorem dX6_turnOf_33 : decode cX6_turnOf 33 = .ok (.iconst 3, 1) := by decide +kernel
theorem dX6_turnOf_34 : decode cX6_turnOf 34 = .ok (.irem, 1) := by decide +kernel
theorem dX6_turnOf_35 : decode cX6_turnOf 35 = .ok (.ifCond .ne 7, 3) := by decide +kernel
theorem dX6_turnOf_38 : decode cX6_turnOf 38 = .ok (.iconst 1, 1) := by decide +kernel
theorem dX6_turnOf_39 : decode cX6_turnOf 39 = .ok (.goto 4, 3) := by decide +kernel
theorem dX6_turnOf_42 : decode cX6_turnOf 42 = .ok (.iconst 0, 1) := by decide +kernel
theorem dX6_turnOf_43 : decode cX6_turnOf 43 = .ok (.invokestatic 149, 3) := by decide +kernel
theorem dX6_turnOf_46 : decode cX6_turnOf 46 = .ok (.pop, 1) := by decide +kernel
theorem dX6_turnOf_47 : decode cX6_turnOf 47 = .ok (.goto 95, 3) := by decide +kernel
theorem dX6_turnOf_50 : decode cX6_turnOf 50 = .ok (.iload_n 1, 1) := by decide +kernel
theorem dX6_turnOf_51 : decode cX6_turnOf 51 = .ok (.iconst 4, 1) := by decide +kernel
theorem dX6_turnOf_52 : decode cX6_turnOf 52 = .ok (.if_icmp .ne 19, 3) := by decide +kernel
theorem dX6_turnOf_55 : decode cX6_turnOf 55 = .ok (.aload_n 0, 1) := by decide +kernel
theorem dX6_turnOf_56 : decode cX6_turnOf 56 = .ok (.iload_n 2, 1) := by decide +kernel
theorem dX6_turnOf_57 : decode cX6_turnOf 57 = .ok (.iconst 4, 1) := by decide +kernel
theorem dX6_turnOf_58 : decode cX6_turnOf 58 = .ok (.irem, 1) := by decide +kernel
theorem dX6_turnOf_59 : decode cX6_turnOf 59 = .ok (.iload_n 2, 1) := by decide +kernel
theorem dX6_turnOf_60 : decode cX6_turnOf 60 = .ok (.iconst 4, 1) := by decide +kernel
theorem dX6_turnOf_61 : decode cX6_turnOf 61 = .ok (.idiv, 1) := by decide +kernel
theorem dX6_turnOf_62 : decode cX6_turnOf 62 = .ok (.iconst 4, 1) := by decide +kernel
theorem dX6_turnOf_63 : decode cX6_turnOf 63 = .ok (.irem, 1) := by decide +kernel
theorem dX6_turnOf_64 : decode cX6_turnOf 64 = .ok (.invokestatic 166, 3) := by decide +kernel
theorem dX6_turnOf_67 : decode cX6_turnOf 67 = .ok (.pop, 1) := by decide +kernel
theorem dX6_turnOf_68 : decode cX6_turnOf 68 = .ok (.goto 74, 3) := by decide +kernel
theorem dX6_turnOf_71 : decode cX6_turnOf 71 = .ok (.iload_n 1, 1) := by decide +kernel
theorem dX6_turnOf_72 : decode cX6_turnOf 72 = .ok (.iconst 5, 1) := by decide +kernel
theorem dX6_turnOf_73 : decode cX6_turnOf 73 = .ok (.if_icmp .le 17, 3) := by decide +kernel
theorem dX6_turnOf_76 : decode cX6_turnOf 76 = .ok (.aload_n 0, 1) := by decide +kernel
theorem dX6_turnOf_77 : decode cX6_turnOf 77 = .ok (.iconst 1, 1) := by decide +kernel
theorem dX6_turnOf_78 : decode cX6_turnOf 78 = .ok (.iload_n 2, 1) := by decide +kernel
theorem dX6_turnOf_79 : decode cX6_turnOf 79 = .ok (.bipush 9, 2) := by decide +kernel
theorem dX6_turnOf_81 : decode cX6_turnOf 81 = .ok (.irem, 1) := by decide +kernel
theorem dX6_turnOf_82 : decode cX6_turnOf 82 = .ok (.iadd, 1) := by decide +kernel
theorem dX6_turnOf_83 : decode cX6_turnOf 83 = .ok (.invokestatic 173, 3) := by decide +kernel
theorem dX6_turnOf_86 : decode cX6_turnOf 86 = .ok (.pop, 1) := by decide +kernel
theorem dX6_turnOf_87 : decode cX6_turnOf 87 = .ok (.goto 55, 3) := by decide +kernel
theorem dX6_turnOf_90 : decode cX6_turnOf 90 = .ok (.iload_n 2, 1) := by decide +kernel
theorem dX6_turnOf_91 : decode cX6_turnOf 91 = .ok (.sipush 128, 3) := by decide +kernel
theorem dX6_turnOf_94 : decode cX6_turnOf 94 = .ok (.idiv, 1) := by decide +kernel
theorem dX6_turnOf_95 : decode cX6_turnOf 95 = .ok (.iconst 2, 1) := by decide +kernel
theorem dX6_turnOf_96 : decode cX6_turnOf 96 = .ok (.irem, 1) := by decide +kernel
theorem dX6_turnOf_97 : decode cX6_turnOf 97 = .ok (.ifCond .ne 14, 3) := by decide +kernel
theorem dX6_turnOf_100 : decode cX6_turnOf 100 = .ok (.aload_n 0, 1) := by decide +kernel
theorem dX6_turnOf_101 : decode cX6_turnOf 101 = .ok (.bipush 11, 2) := by decide +kernel
theorem dX6_turnOf_103 : decode cX6_turnOf 103 = .ok (.iload_n 2, 1) := by decide +kernel
theorem dX6_turnOf_104 : decode cX6_turnOf 104 = .ok (.bipush 100, 2) := by decide +kernel
theorem dX6_turnOf_106 : decode cX6_turnOf 106 = .ok (.irem, 1) := by decide +kernel
theorem dX6_turnOf_107 : decode cX6_turnOf 107 = .ok (.iastore, 1) := by decide +kernel
theorem dX6_turnOf_108 : decode cX6_turnOf 108 = .ok (.goto 34, 3) := by decide +kernel
theorem dX6_turnOf_111 : decode cX6_turnOf 111 = .ok (.iconst 1, 1) := by decide +kernel
theorem dX6_turnOf_112 : decode cX6_turnOf 112 = .ok (.iload_n 2, 1) := by decide +kernel
theorem dX6_turnOf_113 : decode cX6_turnOf 113 = .ok (.iconst 3, 1) := by decide +kernel
theorem dX6_turnOf_114 : decode cX6_turnOf 114 = .ok (.irem, 1) := by decide +kernel
theorem dX6_turnOf_115 : decode cX6_turnOf 115 = .ok (.iadd, 1) := by decide +kernel
theorem dX6_turnOf_116 : decode cX6_turnOf 116 = .ok (.iload_n 2, 1) := by decide +kernel
theorem dX6_turnOf_117 : decode cX6_turnOf 117 = .ok (.iconst 4, 1) := by decide +kernel
theorem dX6_turnOf_118 : decode cX6_turnOf 118 = .ok (.idiv, 1) := by decide +kernel
theorem dX6_turnOf_119 : decode cX6_turnOf 119 = .ok (.bipush 10, 2) := by decide +kernel
theorem dX6_turnOf_121 : decode cX6_turnOf 121 = .ok (.irem, 1) := by decide +kernel
theorem dX6_turnOf_122 : decode cX6_turnOf 122 = .ok (.invokestatic 169, 3) := by decide +kernel
theorem dX6_turnOf_125 : decode cX6_turnOf 125 = .ok (.ifCond .eq 17, 3) := by decide +kernel
theorem dX6_turnOf_128 : decode cX6_turnOf 128 = .ok (.aload_n 0, 1) := by decide +kernel
theorem dX6_turnOf_129 : decode cX6_turnOf 129 = .ok (.bipush 12, 2) := by decide +kernel
theorem dX6_turnOf_131 : decode cX6_turnOf 131 = .ok (.iload_n 2, 1) := by decide +kernel
theorem dX6_turnOf_132 : decode cX6_turnOf 132 = .ok (.iconst 3, 1) := by decide +kernel
theorem dX6_turnOf_133 : decode cX6_turnOf 133 = .ok (.irem, 1) := by decide +kernel
theorem dX6_turnOf_134 : decode cX6_turnOf 134 = .ok (.iadd, 1) := by decide +kernel
theorem dX6_turnOf_135 : decode cX6_turnOf 135 = .ok (.iload_n 2, 1) := by decide +kernel
theorem dX6_turnOf_136 : decode cX6_turnOf 136 = .ok (.iconst 4, 1) := by decide +kernel
theorem dX6_turnOf_137 : decode cX6_turnOf 137 = .ok (.idiv, 1) := by decide +kernel
theorem dX6_turnOf_138 : decode cX6_turnOf 138 = .ok (.bipush 10, 2) := by decide +kernel
theorem dX6_turnOf_140 : decode cX6_turnOf 140 = .ok (.irem, 1) := by decide +kernel
theorem dX6_turnOf_141 : decode cX6_turnOf 141 = .ok (.iastore, 1) := by decide +kernel
theorem dX6_turnOf_142 : decode cX6_turnOf 142 = .ok (.return_, 1) := by decide +kernel
theorem dX6_simulate_0 : decode cX6_simulate 0 = .ok (.aload_n 0, 1) := by decide +kernel
theorem dX6_simulate_1 : decode cX6_simulate 1 = .ok (.iload_n 3, 1) := by decide +kernel
theorem dX6_simulate_2 : decode cX6_simulate 2 = .ok (.i2l, 1) := by decide +kernel
theorem dX6_simulate_3 : decode cX6_simulate 3 = .ok (.lconst 1, 1) := by decide +kernel
theorem dX6_simulate_4 : decode cX6_simulate 4 = .ok (.ldc2_w 223, 3) := by decide +kernel
theorem dX6_simulate_7 : decode cX6_simulate 7 = .ok (.invokestatic 37, 3) := by decide +kernel
theorem dX6_simulate_10 : decode cX6_simulate 10 = .ok (.ifCond .eq 7, 3) := by decide +kernel
theorem dX6_simulate_13 : decode cX6_simulate 13 = .ok (.iconst 0, 1) := by decide +kernel
theorem dX6_simulate_14 : decode cX6_simulate 14 = .ok (.goto 4, 3) := by decide +kernel
theorem dX6_simulate_17 : decode cX6_simulate 17 = .ok (.iconst 1, 1) := by decide +kernel
theorem dX6_simulate_18 : decode cX6_simulate 18 = .ok (.invokevirtual 108, 3) := by decide +kernel
theorem dX6_simulate_21 : decode cX6_simulate 21 = .ok (.ifCond .eq 5, 3) := by decide +kernel
theorem dX6_simulate_24 : decode cX6_simulate 24 = .ok (.iconst 0, 1) := by decide +kernel
theorem dX6_simulate_25 : decode cX6_simulate 25 = .ok (.ireturn, 1) := by decide +kernel
theorem dX6_simulate_26 : decode cX6_simulate 26 = .ok (.aload_n 0, 1) := by decide +kernel
theorem dX6_simulate_27 : decode cX6_simulate 27 = .ok (.getfield 13, 3) := by decide +kernel
theorem dX6_simulate_30 : decode cX6_simulate 30 = .ok (.iconst 0, 1) := by decide +kernel
theorem dX6_simulate_31 : decode cX6_simulate 31 = .ok (.aload_n 0, 1) := by decide +kernel
theorem dX6_simulate_32 : decode cX6_simulate 32 = .ok (.getfield 16, 3) := by decide +kernel
theorem dX6_simulate_35 : decode cX6_simulate 35 = .ok (.iconst 0, 1) := by decide +kernel
theorem dX6_simulate_36 : decode cX6_simulate 36 = .ok (.invokestatic 183, 3) := by decide +kernel
theorem dX6_simulate_39 : decode cX6_simulate 39 = .ok (.lload_n 1, 1) := by decide +kernel
theorem dX6_simulate_40 : decode cX6_simulate 40 = .ok (.lstore 4, 2) := by decide +kernel
theorem dX6_simulate_42 : decode cX6_simulate 42 = .ok (.iconst 0, 1) := by decide +kernel
theorem dX6_simulate_43 : decode cX6_simulate 43 = .ok (.istore 6, 2) := by decide +kernel
theorem dX6_simulate_45 : decode cX6_simulate 45 = .ok (.iload 6, 2) := by decide +kernel
theorem dX6_simulate_47 : decode cX6_simulate 47 = .ok (.iload_n 3, 1) := by decide +kernel
theorem dX6_simulate_48 : decode cX6_simulate 48 = .ok (.if_icmp .ge 46, 3) := by decide +kernel
theorem dX6_simulate_51 : decode cX6_simulate 51 = .ok (.lload 4, 2) := by decide +kernel
theorem dX6_simulate_53 : decode cX6_simulate 53 = .ok (.ldc2_w 244, 3) := by decide +kernel
theorem dX6_simulate_56 : decode cX6_simulate 56 = .ok (.lmul, 1) := by decide +kernel
theorem dX6_simulate_57 : decode cX6_simulate 57 = .ok (.ldc2_w 246, 3) := by decide +kernel
theorem dX6_simulate_60 : decode cX6_simulate 60 = .ok (.ladd, 1) := by decide +kernel
theorem dX6_simulate_61 : decode cX6_simulate 61 = .ok (.lstore 4, 2) := by decide +kernel
theorem dX6_simulate_63 : decode cX6_simulate 63 = .ok (.lload 4, 2) := by decide +kernel
theorem dX6_simulate_65 : decode cX6_simulate 65 = .ok (.bipush 33, 2) := by decide +kernel
theorem dX6_simulate_67 : decode cX6_simulate 67 = .ok (.lushr, 1) := by decide +kernel
theorem dX6_simulate_68 : decode cX6_simulate 68 = .ok (.l2i, 1) := by decide +kernel
theorem dX6_simulate_69 : decode cX6_simulate 69 = .ok (.istore 7, 2) := by decide +kernel
theorem dX6_simulate_71 : decode cX6_simulate 71 = .ok (.aload_n 0, 1) := by decide +kernel
theorem dX6_simulate_72 : decode cX6_simulate 72 = .ok (.getfield 16, 3) := by decide +kernel
theorem dX6_simulate_75 : decode cX6_simulate 75 = .ok (.iload 7, 2) := by decide +kernel
theorem dX6_simulate_77 : decode cX6_simulate 77 = .ok (.bipush 8, 2) := by decide +kernel
theorem dX6_simulate_79 : decode cX6_simulate 79 = .ok (.irem, 1) := by decide +kernel
theorem dX6_simulate_80 : decode cX6_simulate 80 = .ok (.iload 7, 2) := by decide +kernel
theorem dX6_simulate_82 : decode cX6_simulate 82 = .ok (.bipush 8, 2) := by decide +kernel
theorem dX6_simulate_84 : decode cX6_simulate 84 = .ok (.idiv, 1) := by decide +kernel
theorem dX6_simulate_85 : decode cX6_simulate 85 = .ok (.invokestatic 248, 3) := by decide +kernel
theorem dX6_simulate_88 : decode cX6_simulate 88 = .ok (.iinc 6 1, 3) := by decide +kernel
theorem dX6_simulate_91 : decode cX6_simulate 91 = .ok (.goto (-46), 3) := by decide +kernel
theorem dX6_simulate_94 : decode cX6_simulate 94 = .ok (.sipush 1000, 3) := by decide +kernel
theorem dX6_simulate_97 : decode cX6_simulate 97 = .ok (.aload_n 0, 1) := by decide +kernel
theorem dX6_simulate_98 : decode cX6_simulate 98 = .ok (.getfield 16, 3) := by decide +kernel
theorem dX6_simulate_101 : decode cX6_simulate 101 = .ok (.iconst 3, 1) := by decide +kernel
theorem dX6_simulate_102 : decode cX6_simulate 102 = .ok (.iaload, 1) := by decide +kernel
theorem dX6_simulate_103 : decode cX6_simulate 103 = .ok (.aload_n 0, 1) := by decide +kernel
theorem dX6_simulate_104 : decode cX6_simulate 104 = .ok (.getfield 13, 3) := by decide +kernel
theorem dX6_simulate_107 : decode cX6_simulate 107 = .ok (.iconst 3, 1) := by decide +kernel
theorem dX6_simulate_108 : decode cX6_simulate 108 = .ok (.iaload, 1) := by decide +kernel
theorem dX6_simulate_109 : decode cX6_simulate 109 = .ok (.isub, 1) := by decide +kernel
theorem dX6_simulate_110 : decode cX6_simulate 110 = .ok (.sipush 1000, 3) := by decide +kernel
theorem dX6_simulate_113 : decode cX6_simulate 113 = .ok (.irem, 1) := by decide +kernel
theorem dX6_simulate_114 : decode cX6_simulate 114 = .ok (.imul, 1) := by decide +kernel
theorem dX6_simulate_115 : decode cX6_simulate 115 = .ok (.aload_n 0, 1) := by decide +kernel
theorem dX6_simulate_116 : decode cX6_simulate 116 = .ok (.getfield 16, 3) := by decide +kernel
theorem dX6_simulate_119 : decode cX6_simulate 119 = .ok (.invokestatic 192, 3) := by decide +kernel
theorem dX6_simulate_122 : decode cX6_simulate 122 = .ok (.iadd, 1) := by decide +kernel
theorem dX6_simulate_123 : decode cX6_simulate 123 = .ok (.ireturn, 1) := by decide +kernel
theorem dX6_save_0 : decode cX6_save 0 = .ok (.aload_n 0, 1) := by decide +kernel
theorem dX6_save_1 : decode cX6_save 1 = .ok (.iload_n 1, 1) := by decide +kernel
theorem dX6_save_2 : decode cX6_save 2 = .ok (.i2l, 1) := by decide +kernel
theorem dX6_save_3 : decode cX6_save 3 = .ok (.lconst 0, 1) := by decide +kernel
theorem dX6_save_4 : decode cX6_save 4 = .ok (.lconst 1, 1) := by decide +kernel
theorem dX6_save_5 : decode cX6_save 5 = .ok (.invokestatic 37, 3) := by decide +kernel
theorem dX6_save_8 : decode cX6_save 8 = .ok (.ifCond .eq 7, 3) := by decide +kernel
theorem dX6_save_11 : decode cX6_save 11 = .ok (.iconst 0, 1) := by decide +kernel
theorem dX6_save_12 : decode cX6_save 12 = .ok (.goto 4, 3) := by decide +kernel
theorem dX6_save_15 : decode cX6_save 15 = .ok (.iconst 1, 1) := by decide +kernel
theorem dX6_save_16 : decode cX6_save 16 = .ok (.invokevirtual 108, 3) := by decide +kernel
theorem dX6_save_19 : decode cX6_save 19 = .ok (.ifCond .eq 5, 3) := by decide +kernel
theorem dX6_save_22 : decode cX6_save 22 = .ok (.iconst 0, 1) := by decide +kernel
theorem dX6_save_23 : decode cX6_save 23 = .ok (.ireturn, 1) := by decide +kernel
theorem dX6_save_24 : decode cX6_save 24 = .ok (.aload_n 0, 1) := by decide +kernel
theorem dX6_save_25 : decode cX6_save 25 = .ok (.getfield 13, 3) := by decide +kernel
theorem dX6_save_28 : decode cX6_save 28 = .ok (.iconst 0, 1) := by decide +kernel
theorem dX6_save_29 : decode cX6_save 29 = .ok (.aload_n 0, 1) := by decide +kernel
theorem dX6_save_30 : decode cX6_save 30 = .ok (.getfield 22, 3) := by decide +kernel
theorem dX6_save_33 : decode cX6_save 33 = .ok (.sipush 258, 3) := by decide +kernel
theorem dX6_save_36 : decode cX6_save 36 = .ok (.iload_n 1, 1) := by decide +kernel
theorem dX6_save_37 : decode cX6_save 37 = .ok (.imul, 1) := by decide +kernel
theorem dX6_save_38 : decode cX6_save 38 = .ok (.invokestatic 183, 3) := by decide +kernel
theorem dX6_save_41 : decode cX6_save 41 = .ok (.aload_n 0, 1) := by decide +kernel
theorem dX6_save_42 : decode cX6_save 42 = .ok (.getfield 25, 3) := by decide +kernel
theorem dX6_save_45 : decode cX6_save 45 = .ok (.iload_n 1, 1) := by decide +kernel
theorem dX6_save_46 : decode cX6_save 46 = .ok (.iconst 1, 1) := by decide +kernel
theorem dX6_save_47 : decode cX6_save 47 = .ok (.bastore, 1) := by decide +kernel
theorem dX6_save_48 : decode cX6_save 48 = .ok (.aload_n 0, 1) := by decide +kernel
theorem dX6_save_49 : decode cX6_save 49 = .ok (.getfield 13, 3) := by decide +kernel
theorem dX6_save_52 : decode cX6_save 52 = .ok (.iconst 1, 1) := by decide +kernel
theorem dX6_save_53 : decode cX6_save 53 = .ok (.iaload, 1) := by decide +kernel
theorem dX6_save_54 : decode cX6_save 54 = .ok (.ireturn, 1) := by decide +kernel
theorem dX6_restore_0 : decode cX6_restore 0 = .ok (.aload_n 0, 1) := by decide +kernel
theorem dX6_restore_1 : decode cX6_restore 1 = .ok (.iload_n 1, 1) := by decide +kernel
theorem dX6_restore_2 : decode cX6_restore 2 = .ok (.i2l, 1) := by decide +kernel
theorem dX6_restore_3 : decode cX6_restore 3 = .ok (.lconst 0, 1) := by decide +kernel
theorem dX6_restore_4 : decode cX6_restore 4 = .ok (.lconst 1, 1) := by decide +kernel
theorem dX6_restore_5 : decode cX6_restore 5 = .ok (.invokestatic 37, 3) := by decide +kernel
theorem dX6_restore_8 : decode cX6_restore 8 = .ok (.ifCond .ne 7, 3) := by decide +kernel
theorem dX6_restore_11 : decode cX6_restore 11 = .ok (.iconst 1, 1) := by decide +kernel
theorem dX6_restore_12 : decode cX6_restore 12 = .ok (.goto 17, 3) := by decide +kernel
theorem dX6_restore_15 : decode cX6_restore 15 = .ok (.aload_n 0, 1) := by decide +kernel
theorem dX6_restore_16 : decode cX6_restore 16 = .ok (.getfield 25, 3) := by decide +kernel
theorem dX6_restore_19 : decode cX6_restore 19 = .ok (.iload_n 1, 1) := by decide +kernel
theorem dX6_restore_20 : decode cX6_restore 20 = .ok (.baload, 1) := by decide +kernel
theorem dX6_restore_21 : decode cX6_restore 21 = .ok (.ifCond .ne 7, 3) := by decide +kernel
theorem dX6_restore_24 : decode cX6_restore 24 = .ok (.iconst 2, 1) := by decide +kernel
theorem dX6_restore_25 : decode cX6_restore 25 = .ok (.goto 4, 3) := by decide +kernel
theorem dX6_restore_28 : decode cX6_restore 28 = .ok (.iconst 0, 1) := by decide +kernel
theorem dX6_restore_29 : decode cX6_restore 29 = .ok (.invokevirtual 108, 3) := by decide +kernel
theorem dX6_restore_32 : decode cX6_restore 32 = .ok (.ifCond .eq 5, 3) := by decide +kernel
theorem dX6_restore_35 : decode cX6_restore 35 = .ok (.iconst 0, 1) := by decide +kernel
theorem dX6_restore_36 : decode cX6_restore 36 = .ok (.ireturn, 1) := by decide +kernel
theorem dX6_restore_37 : decode cX6_restore 37 = .ok (.aload_n 0, 1) := by decide +kernel
theorem dX6_restore_38 : decode cX6_restore 38 = .ok (.getfield 22, 3) := by decide +kernel
theorem dX6_restore_41 : decode cX6_restore 41 = .ok (.sipush 258, 3) := by decide +kernel
theorem dX6_restore_44 : decode cX6_restore 44 = .ok (.iload_n 1, 1) := by decide +kernel
theorem dX6_restore_45 : decode cX6_restore 45 = .ok (.imul, 1) := by decide +kernel
theorem dX6_restore_46 : decode cX6_restore 46 = .ok (.aload_n 0, 1) := by decide +kernel
theorem dX6_restore_47 : decode cX6_restore 47 = .ok (.getfield 13, 3) := by decide +kernel
theorem dX6_restore_50 : decode cX6_restore 50 = .ok (.iconst 0, 1) := by decide +kernel
theorem dX6_restore_51 : decode cX6_restore 51 = .ok (.invokestatic 183, 3) := by decide +kernel
theorem dX6_restore_54 : decode cX6_restore 54 = .ok (.aload_n 0, 1) := by decide +kernel
theorem dX6_restore_55 : decode cX6_restore 55 = .ok (.iconst 0, 1) := by decide +kernel
theorem dX6_restore_56 : decode cX6_restore 56 = .ok (.putfield 187, 3) := by decide +kernel
theorem dX6_restore_59 : decode cX6_restore 59 = .ok (.aload_n 0, 1) := by decide +kernel
theorem dX6_restore_60 : decode cX6_restore 60 = .ok (.getfield 13, 3) := by decide +kernel
theorem dX6_restore_63 : decode cX6_restore 63 = .ok (.iconst 1, 1) := by decide +kernel
theorem dX6_restore_64 : decode cX6_restore 64 = .ok (.iaload, 1) := by decide +kernel
theorem dX6_restore_65 : decode cX6_restore 65 = .ok (.ireturn, 1) := by decide +kernel

theorem dX2_init_0 : decode cX2_init 0 = .ok (.aload_n 0, 1) := by decide +kernel
theorem dX2_init_1 : decode cX2_init 1 = .ok (.invokespecial 3, 3) := by decide +kernel
theorem dX2_init_4 : decode cX2_init 4 = .ok (.aload_n 0, 1) := by decide +kernel
theorem dX2_init_5 : decode cX2_init 5 = .ok (.bipush 14, 2) := by decide +kernel
theorem dX2_init_7 : decode cX2_init 7 = .ok (.anewarray 9, 3) := by decide +kernel
theorem dX2_init_10 : decode cX2_init 10 = .ok (.putfield 11, 3) := by decide +kernel
theorem dX2_init_13 : decode cX2_init 13 = .ok (.iconst 0, 1) := by decide +kernel
theorem dX2_init_14 : decode cX2_init 14 = .ok (.istore_n 1, 1) := by decide +kernel
theorem dX2_init_15 : decode cX2_init 15 = .ok (.iload_n 1, 1) := by decide +kernel
theorem dX2_init_16 : decode cX2_init 16 = .ok (.bipush 14, 2) := by decide +kernel
theorem dX2_init_18 : decode cX2_init 18 = .ok (.if_icmp .ge 22, 3) := by decide +kernel
theorem dX2_init_21 : decode cX2_init 21 = .ok (.aload_n 0, 1) := by decide +kernel
theorem dX2_init_22 : decode cX2_init 22 = .ok (.getfield 11, 3) := by decide +kernel
theorem dX2_init_25 : decode cX2_init 25 = .ok (.iload_n 1, 1) := by decide +kernel
theorem dX2_init_26 : decode cX2_init 26 = .ok (.new 9, 3) := by decide +kernel
theorem dX2_init_29 : decode cX2_init 29 = .ok (.dup, 1) := by decide +kernel
theorem dX2_init_30 : decode cX2_init 30 = .ok (.invokespecial 17, 3) := by decide +kernel
theorem dX2_init_33 : decode cX2_init 33 = .ok (.aastore, 1) := by decide +kernel
theorem dX2_init_34 : decode cX2_init 34 = .ok (.iinc 1 1, 3) := by decide +kernel
theorem dX2_init_37 : decode cX2_init 37 = .ok (.goto (-22), 3) := by decide +kernel
theorem dX2_init_40 : decode cX2_init 40 = .ok (.return_, 1) := by decide +kernel
theorem dX2_forgetAll_0 : decode cX2_forgetAll 0 = .ok (.aload_n 0, 1) := by decide +kernel
theorem dX2_forgetAll_1 : decode cX2_forgetAll 1 = .ok (.iconst 0, 1) := by decide +kernel
theorem dX2_forgetAll_2 : decode cX2_forgetAll 2 = .ok (.putfield 18, 3) := by decide +kernel
theorem dX2_forgetAll_5 : decode cX2_forgetAll 5 = .ok (.aload_n 0, 1) := by decide +kernel
theorem dX2_forgetAll_6 : decode cX2_forgetAll 6 = .ok (.iconst 0, 1) := by decide +kernel
theorem dX2_forgetAll_7 : decode cX2_forgetAll 7 = .ok (.putfield 22, 3) := by decide +kernel
theorem dX2_forgetAll_10 : decode cX2_forgetAll 10 = .ok (.return_, 1) := by decide +kernel
theorem dX2_keep_0 : decode cX2_keep 0 = .ok (.aload_n 0, 1) := by decide +kernel
theorem dX2_keep_1 : decode cX2_keep 1 = .ok (.getfield 11, 3) := by decide +kernel
theorem dX2_keep_4 : decode cX2_keep 4 = .ok (.aload_n 0, 1) := by decide +kernel
theorem dX2_keep_5 : decode cX2_keep 5 = .ok (.getfield 22, 3) := by decide +kernel
theorem dX2_keep_8 : decode cX2_keep 8 = .ok (.aaload, 1) := by decide +kernel
theorem dX2_keep_9 : decode cX2_keep 9 = .ok (.aload_n 1, 1) := by decide +kernel
theorem dX2_keep_10 : decode cX2_keep 10 = .ok (.invokevirtual 25, 3) := by decide +kernel
theorem dX2_keep_13 : decode cX2_keep 13 = .ok (.aload_n 0, 1) := by decide +kernel
theorem dX2_keep_14 : decode cX2_keep 14 = .ok (.aload_n 0, 1) := by decide +kernel
theorem dX2_keep_15 : decode cX2_keep 15 = .ok (.getfield 22, 3) := by decide +kernel
theorem dX2_keep_18 : decode cX2_keep 18 = .ok (.iconst 1, 1) := by decide +kernel
theorem dX2_keep_19 : decode cX2_keep 19 = .ok (.iadd, 1) := by decide +kernel
theorem dX2_keep_20 : decode cX2_keep 20 = .ok (.bipush 14, 2) := by decide +kernel
theorem dX2_keep_22 : decode cX2_keep 22 = .ok (.irem, 1) := by decide +kernel
theorem dX2_keep_23 : decode cX2_keep 23 = .ok (.putfield 22, 3) := by decide +kernel
theorem dX2_keep_26 : decode cX2_keep 26 = .ok (.aload_n 0, 1) := by decide +kernel
theorem dX2_keep_27 : decode cX2_keep 27 = .ok (.aload_n 0, 1) := by decide +kernel
theorem dX2_keep_28 : decode cX2_keep 28 = .ok (.getfield 18, 3) := by decide +kernel
theorem dX2_keep_31 : decode cX2_keep 31 = .ok (.iconst 1, 1) := by decide +kernel
theorem dX2_keep_32 : decode cX2_keep 32 = .ok (.iadd, 1) := by decide +kernel
theorem dX2_keep_33 : decode cX2_keep 33 = .ok (.bipush 14, 2) := by decide +kernel
theorem dX2_keep_35 : decode cX2_keep 35 = .ok (.invokestatic 29, 3) := by decide +kernel
theorem dX2_keep_38 : decode cX2_keep 38 = .ok (.putfield 18, 3) := by decide +kernel
theorem dX2_keep_41 : decode cX2_keep 41 = .ok (.return_, 1) := by decide +kernel
theorem dX2_takeBack_0 : decode cX2_takeBack 0 = .ok (.aload_n 0, 1) := by decide +kernel
theorem dX2_takeBack_1 : decode cX2_takeBack 1 = .ok (.aload_n 0, 1) := by decide +kernel
theorem dX2_takeBack_2 : decode cX2_takeBack 2 = .ok (.getfield 22, 3) := by decide +kernel
theorem dX2_takeBack_5 : decode cX2_takeBack 5 = .ok (.bipush 14, 2) := by decide +kernel
theorem dX2_takeBack_7 : decode cX2_takeBack 7 = .ok (.iadd, 1) := by decide +kernel
theorem dX2_takeBack_8 : decode cX2_takeBack 8 = .ok (.iconst 1, 1) := by decide +kernel
theorem dX2_takeBack_9 : decode cX2_takeBack 9 = .ok (.isub, 1) := by decide +kernel
theorem dX2_takeBack_10 : decode cX2_takeBack 10 = .ok (.bipush 14, 2) := by decide +kernel
theorem dX2_takeBack_12 : decode cX2_takeBack 12 = .ok (.irem, 1) := by decide +kernel
theorem dX2_takeBack_13 : decode cX2_takeBack 13 = .ok (.putfield 22, 3) := by decide +kernel
theorem dX2_takeBack_16 : decode cX2_takeBack 16 = .ok (.aload_n 1, 1) := by decide +kernel
theorem dX2_takeBack_17 : decode cX2_takeBack 17 = .ok (.aload_n 0, 1) := by decide +kernel
theorem dX2_takeBack_18 : decode cX2_takeBack 18 = .ok (.getfield 11, 3) := by decide +kernel
theorem dX2_takeBack_21 : decode cX2_takeBack 21 = .ok (.aload_n 0, 1) := by decide +kernel
theorem dX2_takeBack_22 : decode cX2_takeBack 22 = .ok (.getfield 22, 3) := by decide +kernel
theorem dX2_takeBack_25 : decode cX2_takeBack 25 = .ok (.aaload, 1) := by decide +kernel
theorem dX2_takeBack_26 : decode cX2_takeBack 26 = .ok (.invokevirtual 25, 3) := by decide +kernel
theorem dX2_takeBack_29 : decode cX2_takeBack 29 = .ok (.aload_n 0, 1) := by decide +kernel
theorem dX2_takeBack_30 : decode cX2_takeBack 30 = .ok (.dup, 1) := by decide +kernel
theorem dX2_takeBack_31 : decode cX2_takeBack 31 = .ok (.getfield 18, 3) := by decide +kernel
theorem dX2_takeBack_34 : decode cX2_takeBack 34 = .ok (.iconst 1, 1) := by decide +kernel
theorem dX2_takeBack_35 : decode cX2_takeBack 35 = .ok (.isub, 1) := by decide +kernel
theorem dX2_takeBack_36 : decode cX2_takeBack 36 = .ok (.putfield 18, 3) := by decide +kernel
theorem dX2_takeBack_39 : decode cX2_takeBack 39 = .ok (.aload_n 0, 1) := by decide +kernel
theorem dX2_takeBack_40 : decode cX2_takeBack 40 = .ok (.getfield 18, 3) := by decide +kernel
theorem dX2_takeBack_43 : decode cX2_takeBack 43 = .ok (.ireturn, 1) := by decide +kernel
theorem dX4_init_0 : decode cX4_init 0 = .ok (.aload_n 0, 1) := by decide +kernel
theorem dX4_init_1 : decode cX4_init 1 = .ok (.invokespecial 3, 3) := by decide +kernel
theorem dX4_init_4 : decode cX4_init 4 = .ok (.aload_n 0, 1) := by decide +kernel
theorem dX4_init_5 : decode cX4_init 5 = .ok (.bipush 120, 2) := by decide +kernel
theorem dX4_init_7 : decode cX4_init 7 = .ok (.newarray .char, 2) := by decide +kernel
theorem dX4_init_9 : decode cX4_init 9 = .ok (.putfield 9, 3) := by decide +kernel
theorem dX4_init_12 : decode cX4_init 12 = .ok (.return_, 1) := by decide +kernel
theorem dX4_add_0 : decode cX4_add 0 = .ok (.aload_n 0, 1) := by decide +kernel
theorem dX4_add_1 : decode cX4_add 1 = .ok (.getfield 9, 3) := by decide +kernel
theorem dX4_add_4 : decode cX4_add 4 = .ok (.aload_n 0, 1) := by decide +kernel
theorem dX4_add_5 : decode cX4_add 5 = .ok (.getfield 15, 3) := by decide +kernel
theorem dX4_add_8 : decode cX4_add 8 = .ok (.iload_n 1, 1) := by decide +kernel
theorem dX4_add_9 : decode cX4_add 9 = .ok (.castore, 1) := by decide +kernel
theorem dX4_add_10 : decode cX4_add 10 = .ok (.aload_n 0, 1) := by decide +kernel
theorem dX4_add_11 : decode cX4_add 11 = .ok (.dup, 1) := by decide +kernel
theorem dX4_add_12 : decode cX4_add 12 = .ok (.getfield 15, 3) := by decide +kernel
theorem dX4_add_15 : decode cX4_add 15 = .ok (.iconst 1, 1) := by decide +kernel
theorem dX4_add_16 : decode cX4_add 16 = .ok (.iadd, 1) := by decide +kernel
theorem dX4_add_17 : decode cX4_add 17 = .ok (.putfield 15, 3) := by decide +kernel
theorem dX4_add_20 : decode cX4_add 20 = .ok (.aload_n 0, 1) := by decide +kernel
theorem dX4_add_21 : decode cX4_add 21 = .ok (.getfield 15, 3) := by decide +kernel
theorem dX4_add_24 : decode cX4_add 24 = .ok (.ireturn, 1) := by decide +kernel
theorem dX4_signAt_0 : decode cX4_signAt 0 = .ok (.iload_n 1, 1) := by decide +kernel
theorem dX4_signAt_1 : decode cX4_signAt 1 = .ok (.ifCond .lt 20, 3) := by decide +kernel
theorem dX4_signAt_4 : decode cX4_signAt 4 = .ok (.iload_n 1, 1) := by decide +kernel
theorem dX4_signAt_5 : decode cX4_signAt 5 = .ok (.aload_n 0, 1) := by decide +kernel
theorem dX4_signAt_6 : decode cX4_signAt 6 = .ok (.getfield 15, 3) := by decide +kernel
theorem dX4_signAt_9 : decode cX4_signAt 9 = .ok (.if_icmp .ge 12, 3) := by decide +kernel
theorem dX4_signAt_12 : decode cX4_signAt 12 = .ok (.aload_n 0, 1) := by decide +kernel
theorem dX4_signAt_13 : decode cX4_signAt 13 = .ok (.getfield 9, 3) := by decide +kernel
theorem dX4_signAt_16 : decode cX4_signAt 16 = .ok (.iload_n 1, 1) := by decide +kernel
theorem dX4_signAt_17 : decode cX4_signAt 17 = .ok (.caload, 1) := by decide +kernel
theorem dX4_signAt_18 : decode cX4_signAt 18 = .ok (.goto 4, 3) := by decide +kernel
theorem dX4_signAt_21 : decode cX4_signAt 21 = .ok (.iconst 0, 1) := by decide +kernel
theorem dX4_signAt_22 : decode cX4_signAt 22 = .ok (.ireturn, 1) := by decide +kernel
theorem dX4_formOf_0 : decode cX4_formOf 0 = .ok (.iload_n 0, 1) := by decide +kernel
theorem dX4_formOf_1 : decode cX4_formOf 1 = .ok (.tableswitch 124 99 120 #[103, 121, 124, 124, 124, 109, 124, 124, 124, 124, 124, 106, 124, 124, 124, 124, 118, 124, 124, 115, 124, 112], 103) := by decide +kernel
theorem dX4_formOf_104 : decode cX4_formOf 104 = .ok (.ldc 19, 2) := by decide +kernel
theorem dX4_formOf_106 : decode cX4_formOf 106 = .ok (.areturn, 1) := by decide +kernel
theorem dX4_formOf_107 : decode cX4_formOf 107 = .ok (.ldc 21, 2) := by decide +kernel
theorem dX4_formOf_109 : decode cX4_formOf 109 = .ok (.areturn, 1) := by decide +kernel
theorem dX4_formOf_110 : decode cX4_formOf 110 = .ok (.ldc 23, 2) := by decide +kernel
theorem dX4_formOf_112 : decode cX4_formOf 112 = .ok (.areturn, 1) := by decide +kernel
theorem dX4_formOf_113 : decode cX4_formOf 113 = .ok (.ldc 25, 2) := by decide +kernel
theorem dX4_formOf_115 : decode cX4_formOf 115 = .ok (.areturn, 1) := by decide +kernel
theorem dX4_formOf_116 : decode cX4_formOf 116 = .ok (.ldc 27, 2) := by decide +kernel
theorem dX4_formOf_118 : decode cX4_formOf 118 = .ok (.areturn, 1) := by decide +kernel
theorem dX4_formOf_119 : decode cX4_formOf 119 = .ok (.ldc 29, 2) := by decide +kernel
theorem dX4_formOf_121 : decode cX4_formOf 121 = .ok (.areturn, 1) := by decide +kernel
theorem dX4_formOf_122 : decode cX4_formOf 122 = .ok (.ldc 31, 2) := by decide +kernel
theorem dX4_formOf_124 : decode cX4_formOf 124 = .ok (.areturn, 1) := by decide +kernel
theorem dX4_formOf_125 : decode cX4_formOf 125 = .ok (.ldc 33, 2) := by decide +kernel
theorem dX4_formOf_127 : decode cX4_formOf 127 = .ok (.areturn, 1) := by decide +kernel
theorem dX4_formLength_0 : decode cX4_formLength 0 = .ok (.aload_n 0, 1) := by decide +kernel
theorem dX4_formLength_1 : decode cX4_formLength 1 = .ok (.iload_n 1, 1) := by decide +kernel
theorem dX4_formLength_2 : decode cX4_formLength 2 = .ok (.invokevirtual 35, 3) := by decide +kernel
theorem dX4_formLength_5 : decode cX4_formLength 5 = .ok (.invokestatic 39, 3) := by decide +kernel
theorem dX4_formLength_8 : decode cX4_formLength 8 = .ok (.invokevirtual 43, 3) := by decide +kernel
theorem dX4_formLength_11 : decode cX4_formLength 11 = .ok (.ireturn, 1) := by decide +kernel
theorem dX4_firstError_0 : decode cX4_firstError 0 = .ok (.aload_n 0, 1) := by decide +kernel
theorem dX4_firstError_1 : decode cX4_firstError 1 = .ok (.iconst 0, 1) := by decide +kernel
theorem dX4_firstError_2 : decode cX4_firstError 2 = .ok (.invokevirtual 35, 3) := by decide +kernel
theorem dX4_firstError_5 : decode cX4_firstError 5 = .ok (.bipush 66, 2) := by decide +kernel
theorem dX4_firstError_7 : decode cX4_firstError 7 = .ok (.if_icmp .eq 5, 3) := by decide +kernel
theorem dX4_firstError_10 : decode cX4_firstError 10 = .ok (.iconst 0, 1) := by decide +kernel
theorem dX4_firstError_11 : decode cX4_firstError 11 = .ok (.ireturn, 1) := by decide +kernel
theorem dX4_firstError_12 : decode cX4_firstError 12 = .ok (.iconst 1, 1) := by decide +kernel
theorem dX4_firstError_13 : decode cX4_firstError 13 = .ok (.istore_n 1, 1) := by decide +kernel
theorem dX4_firstError_14 : decode cX4_firstError 14 = .ok (.iload_n 1, 1) := by decide +kernel
theorem dX4_firstError_15 : decode cX4_firstError 15 = .ok (.aload_n 0, 1) := by decide +kernel
theorem dX4_firstError_16 : decode cX4_firstError 16 = .ok (.getfield 15, 3) := by decide +kernel
theorem dX4_firstError_19 : decode cX4_firstError 19 = .ok (.if_icmp .ge 73, 3) := by decide +kernel
theorem dX4_firstError_22 : decode cX4_firstError 22 = .ok (.aload_n 0, 1) := by decide +kernel
theorem dX4_firstError_23 : decode cX4_firstError 23 = .ok (.iload_n 1, 1) := by decide +kernel
theorem dX4_firstError_24 : decode cX4_firstError 24 = .ok (.invokevirtual 35, 3) := by decide +kernel
theorem dX4_firstError_27 : decode cX4_firstError 27 = .ok (.invokestatic 39, 3) := by decide +kernel
theorem dX4_firstError_30 : decode cX4_firstError 30 = .ok (.astore_n 2, 1) := by decide +kernel
theorem dX4_firstError_31 : decode cX4_firstError 31 = .ok (.aload_n 2, 1) := by decide +kernel
theorem dX4_firstError_32 : decode cX4_firstError 32 = .ok (.invokevirtual 48, 3) := by decide +kernel
theorem dX4_firstError_35 : decode cX4_firstError 35 = .ok (.ifCond .eq 5, 3) := by decide +kernel
theorem dX4_firstError_38 : decode cX4_firstError 38 = .ok (.iload_n 1, 1) := by decide +kernel
theorem dX4_firstError_39 : decode cX4_firstError 39 = .ok (.ireturn, 1) := by decide +kernel
theorem dX4_firstError_40 : decode cX4_firstError 40 = .ok (.iconst 0, 1) := by decide +kernel
theorem dX4_firstError_41 : decode cX4_firstError 41 = .ok (.istore_n 3, 1) := by decide +kernel
theorem dX4_firstError_42 : decode cX4_firstError 42 = .ok (.iload_n 3, 1) := by decide +kernel
theorem dX4_firstError_43 : decode cX4_firstError 43 = .ok (.aload_n 2, 1) := by decide +kernel
theorem dX4_firstError_44 : decode cX4_firstError 44 = .ok (.invokevirtual 43, 3) := by decide +kernel
theorem dX4_firstError_47 : decode cX4_firstError 47 = .ok (.if_icmp .ge 32, 3) := by decide +kernel
theorem dX4_firstError_50 : decode cX4_firstError 50 = .ok (.aload_n 0, 1) := by decide +kernel
theorem dX4_firstError_51 : decode cX4_firstError 51 = .ok (.aload_n 2, 1) := by decide +kernel
theorem dX4_firstError_52 : decode cX4_firstError 52 = .ok (.iload_n 3, 1) := by decide +kernel
theorem dX4_firstError_53 : decode cX4_firstError 53 = .ok (.invokevirtual 52, 3) := by decide +kernel
theorem dX4_firstError_56 : decode cX4_firstError 56 = .ok (.iload_n 1, 1) := by decide +kernel
theorem dX4_firstError_57 : decode cX4_firstError 57 = .ok (.iconst 1, 1) := by decide +kernel
theorem dX4_firstError_58 : decode cX4_firstError 58 = .ok (.iadd, 1) := by decide +kernel
theorem dX4_firstError_59 : decode cX4_firstError 59 = .ok (.iload_n 3, 1) := by decide +kernel
theorem dX4_firstError_60 : decode cX4_firstError 60 = .ok (.iadd, 1) := by decide +kernel
theorem dX4_firstError_61 : decode cX4_firstError 61 = .ok (.invokevirtual 55, 3) := by decide +kernel
theorem dX4_firstError_64 : decode cX4_firstError 64 = .ok (.ifCond .ne 9, 3) := by decide +kernel
theorem dX4_firstError_67 : decode cX4_firstError 67 = .ok (.iload_n 1, 1) := by decide +kernel
theorem dX4_firstError_68 : decode cX4_firstError 68 = .ok (.iconst 1, 1) := by decide +kernel
theorem dX4_firstError_69 : decode cX4_firstError 69 = .ok (.iadd, 1) := by decide +kernel
theorem dX4_firstError_70 : decode cX4_firstError 70 = .ok (.iload_n 3, 1) := by decide +kernel
theorem dX4_firstError_71 : decode cX4_firstError 71 = .ok (.iadd, 1) := by decide +kernel
theorem dX4_firstError_72 : decode cX4_firstError 72 = .ok (.ireturn, 1) := by decide +kernel
theorem dX4_firstError_73 : decode cX4_firstError 73 = .ok (.iinc 3 1, 3) := by decide +kernel
theorem dX4_firstError_76 : decode cX4_firstError 76 = .ok (.goto (-34), 3) := by decide +kernel
theorem dX4_firstError_79 : decode cX4_firstError 79 = .ok (.iload_n 1, 1) := by decide +kernel
theorem dX4_firstError_80 : decode cX4_firstError 80 = .ok (.iconst 1, 1) := by decide +kernel
theorem dX4_firstError_81 : decode cX4_firstError 81 = .ok (.aload_n 0, 1) := by decide +kernel
theorem dX4_firstError_82 : decode cX4_firstError 82 = .ok (.iload_n 1, 1) := by decide +kernel
theorem dX4_firstError_83 : decode cX4_firstError 83 = .ok (.invokevirtual 59, 3) := by decide +kernel
theorem dX4_firstError_86 : decode cX4_firstError 86 = .ok (.iadd, 1) := by decide +kernel
theorem dX4_firstError_87 : decode cX4_firstError 87 = .ok (.iadd, 1) := by decide +kernel
theorem dX4_firstError_88 : decode cX4_firstError 88 = .ok (.istore_n 1, 1) := by decide +kernel
theorem dX4_firstError_89 : decode cX4_firstError 89 = .ok (.goto (-75), 3) := by decide +kernel
theorem dX4_firstError_92 : decode cX4_firstError 92 = .ok (.iconst (-1), 1) := by decide +kernel
theorem dX4_firstError_93 : decode cX4_firstError 93 = .ok (.ireturn, 1) := by decide +kernel
theorem dX4_isAllowed_0 : decode cX4_isAllowed 0 = .ok (.aload_n 0, 1) := by decide +kernel
theorem dX4_isAllowed_1 : decode cX4_isAllowed 1 = .ok (.iload_n 2, 1) := by decide +kernel
theorem dX4_isAllowed_2 : decode cX4_isAllowed 2 = .ok (.invokevirtual 35, 3) := by decide +kernel
theorem dX4_isAllowed_5 : decode cX4_isAllowed 5 = .ok (.istore_n 3, 1) := by decide +kernel
theorem dX4_isAllowed_6 : decode cX4_isAllowed 6 = .ok (.iload_n 1, 1) := by decide +kernel
theorem dX4_isAllowed_7 : decode cX4_isAllowed 7 = .ok (.bipush 43, 2) := by decide +kernel
theorem dX4_isAllowed_9 : decode cX4_isAllowed 9 = .ok (.if_icmp .ne 21, 3) := by decide +kernel
theorem dX4_isAllowed_12 : decode cX4_isAllowed 12 = .ok (.iload_n 3, 1) := by decide +kernel
theorem dX4_isAllowed_13 : decode cX4_isAllowed 13 = .ok (.bipush 43, 2) := by decide +kernel
theorem dX4_isAllowed_15 : decode cX4_isAllowed 15 = .ok (.if_icmp .eq 9, 3) := by decide +kernel
theorem dX4_isAllowed_18 : decode cX4_isAllowed 18 = .ok (.iload_n 3, 1) := by decide +kernel
theorem dX4_isAllowed_19 : decode cX4_isAllowed 19 = .ok (.bipush 45, 2) := by decide +kernel
theorem dX4_isAllowed_21 : decode cX4_isAllowed 21 = .ok (.if_icmp .ne 7, 3) := by decide +kernel
theorem dX4_isAllowed_24 : decode cX4_isAllowed 24 = .ok (.iconst 1, 1) := by decide +kernel
theorem dX4_isAllowed_25 : decode cX4_isAllowed 25 = .ok (.goto 4, 3) := by decide +kernel
theorem dX4_isAllowed_28 : decode cX4_isAllowed 28 = .ok (.iconst 0, 1) := by decide +kernel
theorem dX4_isAllowed_29 : decode cX4_isAllowed 29 = .ok (.ireturn, 1) := by decide +kernel
theorem dX4_isAllowed_30 : decode cX4_isAllowed 30 = .ok (.iload_n 1, 1) := by decide +kernel
theorem dX4_isAllowed_31 : decode cX4_isAllowed 31 = .ok (.bipush 100, 2) := by decide +kernel
theorem dX4_isAllowed_33 : decode cX4_isAllowed 33 = .ok (.if_icmp .ne 54, 3) := by decide +kernel
theorem dX4_isAllowed_36 : decode cX4_isAllowed 36 = .ok (.aload_n 0, 1) := by decide +kernel
theorem dX4_isAllowed_37 : decode cX4_isAllowed 37 = .ok (.iload_n 2, 1) := by decide +kernel
theorem dX4_isAllowed_38 : decode cX4_isAllowed 38 = .ok (.iconst 1, 1) := by decide +kernel
theorem dX4_isAllowed_39 : decode cX4_isAllowed 39 = .ok (.isub, 1) := by decide +kernel
theorem dX4_isAllowed_40 : decode cX4_isAllowed 40 = .ok (.invokevirtual 35, 3) := by decide +kernel
theorem dX4_isAllowed_43 : decode cX4_isAllowed 43 = .ok (.istore 4, 2) := by decide +kernel
theorem dX4_isAllowed_45 : decode cX4_isAllowed 45 = .ok (.iload_n 3, 1) := by decide +kernel
theorem dX4_isAllowed_46 : decode cX4_isAllowed 46 = .ok (.iload 4, 2) := by decide +kernel
theorem dX4_isAllowed_48 : decode cX4_isAllowed 48 = .ok (.bipush 48, 2) := by decide +kernel
theorem dX4_isAllowed_50 : decode cX4_isAllowed 50 = .ok (.if_icmp .ne 8, 3) := by decide +kernel
theorem dX4_isAllowed_53 : decode cX4_isAllowed 53 = .ok (.bipush 49, 2) := by decide +kernel
theorem dX4_isAllowed_55 : decode cX4_isAllowed 55 = .ok (.goto 5, 3) := by decide +kernel
theorem dX4_isAllowed_58 : decode cX4_isAllowed 58 = .ok (.bipush 48, 2) := by decide +kernel
theorem dX4_isAllowed_60 : decode cX4_isAllowed 60 = .ok (.if_icmp .lt 25, 3) := by decide +kernel
theorem dX4_isAllowed_63 : decode cX4_isAllowed 63 = .ok (.iload_n 3, 1) := by decide +kernel
theorem dX4_isAllowed_64 : decode cX4_isAllowed 64 = .ok (.iload 4, 2) := by decide +kernel
theorem dX4_isAllowed_66 : decode cX4_isAllowed 66 = .ok (.bipush 54, 2) := by decide +kernel
theorem dX4_isAllowed_68 : decode cX4_isAllowed 68 = .ok (.if_icmp .ne 8, 3) := by decide +kernel
theorem dX4_isAllowed_71 : decode cX4_isAllowed 71 = .ok (.bipush 48, 2) := by decide +kernel
theorem dX4_isAllowed_73 : decode cX4_isAllowed 73 = .ok (.goto 5, 3) := by decide +kernel
theorem dX4_isAllowed_76 : decode cX4_isAllowed 76 = .ok (.bipush 57, 2) := by decide +kernel
theorem dX4_isAllowed_78 : decode cX4_isAllowed 78 = .ok (.if_icmp .gt 7, 3) := by decide +kernel
theorem dX4_isAllowed_81 : decode cX4_isAllowed 81 = .ok (.iconst 1, 1) := by decide +kernel
theorem dX4_isAllowed_82 : decode cX4_isAllowed 82 = .ok (.goto 4, 3) := by decide +kernel
theorem dX4_isAllowed_85 : decode cX4_isAllowed 85 = .ok (.iconst 0, 1) := by decide +kernel
theorem dX4_isAllowed_86 : decode cX4_isAllowed 86 = .ok (.ireturn, 1) := by decide +kernel
theorem dX4_isAllowed_87 : decode cX4_isAllowed 87 = .ok (.iload_n 3, 1) := by decide +kernel
theorem dX4_isAllowed_88 : decode cX4_isAllowed 88 = .ok (.bipush 48, 2) := by decide +kernel
theorem dX4_isAllowed_90 : decode cX4_isAllowed 90 = .ok (.if_icmp .lt 12, 3) := by decide +kernel
theorem dX4_isAllowed_93 : decode cX4_isAllowed 93 = .ok (.iload_n 3, 1) := by decide +kernel
theorem dX4_isAllowed_94 : decode cX4_isAllowed 94 = .ok (.iload_n 1, 1) := by decide +kernel
theorem dX4_isAllowed_95 : decode cX4_isAllowed 95 = .ok (.if_icmp .gt 7, 3) := by decide +kernel
theorem dX4_isAllowed_98 : decode cX4_isAllowed 98 = .ok (.iconst 1, 1) := by decide +kernel
theorem dX4_isAllowed_99 : decode cX4_isAllowed 99 = .ok (.goto 4, 3) := by decide +kernel
theorem dX4_isAllowed_102 : decode cX4_isAllowed 102 = .ok (.iconst 0, 1) := by decide +kernel
theorem dX4_isAllowed_103 : decode cX4_isAllowed 103 = .ok (.ireturn, 1) := by decide +kernel
theorem dX4_numberAt_0 : decode cX4_numberAt 0 = .ok (.iconst 0, 1) := by decide +kernel
theorem dX4_numberAt_1 : decode cX4_numberAt 1 = .ok (.istore_n 3, 1) := by decide +kernel
theorem dX4_numberAt_2 : decode cX4_numberAt 2 = .ok (.iconst 0, 1) := by decide +kernel
theorem dX4_numberAt_3 : decode cX4_numberAt 3 = .ok (.istore 4, 2) := by decide +kernel
theorem dX4_numberAt_5 : decode cX4_numberAt 5 = .ok (.iload 4, 2) := by decide +kernel
theorem dX4_numberAt_7 : decode cX4_numberAt 7 = .ok (.iload_n 2, 1) := by decide +kernel
theorem dX4_numberAt_8 : decode cX4_numberAt 8 = .ok (.if_icmp .ge 26, 3) := by decide +kernel
theorem dX4_numberAt_11 : decode cX4_numberAt 11 = .ok (.iload_n 3, 1) := by decide +kernel
theorem dX4_numberAt_12 : decode cX4_numberAt 12 = .ok (.bipush 10, 2) := by decide +kernel
theorem dX4_numberAt_14 : decode cX4_numberAt 14 = .ok (.imul, 1) := by decide +kernel
theorem dX4_numberAt_15 : decode cX4_numberAt 15 = .ok (.aload_n 0, 1) := by decide +kernel
theorem dX4_numberAt_16 : decode cX4_numberAt 16 = .ok (.iload_n 1, 1) := by decide +kernel
theorem dX4_numberAt_17 : decode cX4_numberAt 17 = .ok (.iload 4, 2) := by decide +kernel
theorem dX4_numberAt_19 : decode cX4_numberAt 19 = .ok (.iadd, 1) := by decide +kernel
theorem dX4_numberAt_20 : decode cX4_numberAt 20 = .ok (.invokevirtual 35, 3) := by decide +kernel
theorem dX4_numberAt_23 : decode cX4_numberAt 23 = .ok (.iadd, 1) := by decide +kernel
theorem dX4_numberAt_24 : decode cX4_numberAt 24 = .ok (.bipush 48, 2) := by decide +kernel
theorem dX4_numberAt_26 : decode cX4_numberAt 26 = .ok (.isub, 1) := by decide +kernel
theorem dX4_numberAt_27 : decode cX4_numberAt 27 = .ok (.istore_n 3, 1) := by decide +kernel
theorem dX4_numberAt_28 : decode cX4_numberAt 28 = .ok (.iinc 4 1, 3) := by decide +kernel
theorem dX4_numberAt_31 : decode cX4_numberAt 31 = .ok (.goto (-26), 3) := by decide +kernel
theorem dX4_numberAt_34 : decode cX4_numberAt 34 = .ok (.iload_n 3, 1) := by decide +kernel
theorem dX4_numberAt_35 : decode cX4_numberAt 35 = .ok (.ireturn, 1) := by decide +kernel
theorem dX4_doCommand_0 : decode cX4_doCommand 0 = .ok (.aload_n 0, 1) := by decide +kernel
theorem dX4_doCommand_1 : decode cX4_doCommand 1 = .ok (.iload_n 1, 1) := by decide +kernel
theorem dX4_doCommand_2 : decode cX4_doCommand 2 = .ok (.iconst 1, 1) := by decide +kernel
theorem dX4_doCommand_3 : decode cX4_doCommand 3 = .ok (.iadd, 1) := by decide +kernel
theorem dX4_doCommand_4 : decode cX4_doCommand 4 = .ok (.iconst 1, 1) := by decide +kernel
theorem dX4_doCommand_5 : decode cX4_doCommand 5 = .ok (.invokevirtual 63, 3) := by decide +kernel
theorem dX4_doCommand_8 : decode cX4_doCommand 8 = .ok (.istore_n 3, 1) := by decide +kernel
theorem dX4_doCommand_9 : decode cX4_doCommand 9 = .ok (.aload_n 0, 1) := by decide +kernel
theorem dX4_doCommand_10 : decode cX4_doCommand 10 = .ok (.iload_n 1, 1) := by decide +kernel
theorem dX4_doCommand_11 : decode cX4_doCommand 11 = .ok (.invokevirtual 35, 3) := by decide +kernel
theorem dX4_doCommand_14 : decode cX4_doCommand 14 = .ok (.lookupswitch 186 #[(99, 58), (104, 98), (110, 75), (115, 169), (118, 153), (120, 121)], 58) := by decide +kernel
theorem dX4_doCommand_72 : decode cX4_doCommand 72 = .ok (.aload_n 2, 1) := by decide +kernel
theorem dX4_doCommand_73 : decode cX4_doCommand 73 = .ok (.iconst 0, 1) := by decide +kernel
theorem dX4_doCommand_74 : decode cX4_doCommand 74 = .ok (.iload_n 3, 1) := by decide +kernel
theorem dX4_doCommand_75 : decode cX4_doCommand 75 = .ok (.aload_n 0, 1) := by decide +kernel
theorem dX4_doCommand_76 : decode cX4_doCommand 76 = .ok (.iload_n 1, 1) := by decide +kernel
theorem dX4_doCommand_77 : decode cX4_doCommand 77 = .ok (.iconst 2, 1) := by decide +kernel
theorem dX4_doCommand_78 : decode cX4_doCommand 78 = .ok (.iadd, 1) := by decide +kernel
theorem dX4_doCommand_79 : decode cX4_doCommand 79 = .ok (.bipush 7, 2) := by decide +kernel
theorem dX4_doCommand_81 : decode cX4_doCommand 81 = .ok (.invokevirtual 63, 3) := by decide +kernel
theorem dX4_doCommand_84 : decode cX4_doCommand 84 = .ok (.iconst 0, 1) := by decide +kernel
theorem dX4_doCommand_85 : decode cX4_doCommand 85 = .ok (.invokevirtual 67, 3) := by decide +kernel
theorem dX4_doCommand_88 : decode cX4_doCommand 88 = .ok (.ireturn, 1) := by decide +kernel
theorem dX4_doCommand_89 : decode cX4_doCommand 89 = .ok (.aload_n 2, 1) := by decide +kernel
theorem dX4_doCommand_90 : decode cX4_doCommand 90 = .ok (.iconst 1, 1) := by decide +kernel
theorem dX4_doCommand_91 : decode cX4_doCommand 91 = .ok (.iload_n 3, 1) := by decide +kernel
theorem dX4_doCommand_92 : decode cX4_doCommand 92 = .ok (.aload_n 0, 1) := by decide +kernel
theorem dX4_doCommand_93 : decode cX4_doCommand 93 = .ok (.iload_n 1, 1) := by decide +kernel
theorem dX4_doCommand_94 : decode cX4_doCommand 94 = .ok (.iconst 2, 1) := by decide +kernel
theorem dX4_doCommand_95 : decode cX4_doCommand 95 = .ok (.iadd, 1) := by decide +kernel
theorem dX4_doCommand_96 : decode cX4_doCommand 96 = .ok (.iconst 1, 1) := by decide +kernel
theorem dX4_doCommand_97 : decode cX4_doCommand 97 = .ok (.invokevirtual 63, 3) := by decide +kernel
theorem dX4_doCommand_100 : decode cX4_doCommand 100 = .ok (.aload_n 0, 1) := by decide +kernel
theorem dX4_doCommand_101 : decode cX4_doCommand 101 = .ok (.iload_n 1, 1) := by decide +kernel
theorem dX4_doCommand_102 : decode cX4_doCommand 102 = .ok (.iconst 3, 1) := by decide +kernel
theorem dX4_doCommand_103 : decode cX4_doCommand 103 = .ok (.iadd, 1) := by decide +kernel
theorem dX4_doCommand_104 : decode cX4_doCommand 104 = .ok (.iconst 1, 1) := by decide +kernel
theorem dX4_doCommand_105 : decode cX4_doCommand 105 = .ok (.invokevirtual 63, 3) := by decide +kernel
theorem dX4_doCommand_108 : decode cX4_doCommand 108 = .ok (.invokevirtual 67, 3) := by decide +kernel
theorem dX4_doCommand_111 : decode cX4_doCommand 111 = .ok (.ireturn, 1) := by decide +kernel
theorem dX4_doCommand_112 : decode cX4_doCommand 112 = .ok (.aload_n 2, 1) := by decide +kernel
theorem dX4_doCommand_113 : decode cX4_doCommand 113 = .ok (.iconst 2, 1) := by decide +kernel
theorem dX4_doCommand_114 : decode cX4_doCommand 114 = .ok (.iload_n 3, 1) := by decide +kernel
theorem dX4_doCommand_115 : decode cX4_doCommand 115 = .ok (.aload_n 0, 1) := by decide +kernel
theorem dX4_doCommand_116 : decode cX4_doCommand 116 = .ok (.iload_n 1, 1) := by decide +kernel
theorem dX4_doCommand_117 : decode cX4_doCommand 117 = .ok (.iconst 2, 1) := by decide +kernel
theorem dX4_doCommand_118 : decode cX4_doCommand 118 = .ok (.iadd, 1) := by decide +kernel
theorem dX4_doCommand_119 : decode cX4_doCommand 119 = .ok (.iconst 2, 1) := by decide +kernel
theorem dX4_doCommand_120 : decode cX4_doCommand 120 = .ok (.invokevirtual 63, 3) := by decide +kernel
theorem dX4_doCommand_123 : decode cX4_doCommand 123 = .ok (.aload_n 0, 1) := by decide +kernel
theorem dX4_doCommand_124 : decode cX4_doCommand 124 = .ok (.iload_n 1, 1) := by decide +kernel
theorem dX4_doCommand_125 : decode cX4_doCommand 125 = .ok (.iconst 4, 1) := by decide +kernel
theorem dX4_doCommand_126 : decode cX4_doCommand 126 = .ok (.iadd, 1) := by decide +kernel
theorem dX4_doCommand_127 : decode cX4_doCommand 127 = .ok (.iconst 2, 1) := by decide +kernel
theorem dX4_doCommand_128 : decode cX4_doCommand 128 = .ok (.invokevirtual 63, 3) := by decide +kernel
theorem dX4_doCommand_131 : decode cX4_doCommand 131 = .ok (.invokevirtual 67, 3) := by decide +kernel
theorem dX4_doCommand_134 : decode cX4_doCommand 134 = .ok (.ireturn, 1) := by decide +kernel
theorem dX4_doCommand_135 : decode cX4_doCommand 135 = .ok (.aload_n 2, 1) := by decide +kernel
theorem dX4_doCommand_136 : decode cX4_doCommand 136 = .ok (.iconst 4, 1) := by decide +kernel
theorem dX4_doCommand_137 : decode cX4_doCommand 137 = .ok (.iload_n 3, 1) := by decide +kernel
theorem dX4_doCommand_138 : decode cX4_doCommand 138 = .ok (.aload_n 0, 1) := by decide +kernel
theorem dX4_doCommand_139 : decode cX4_doCommand 139 = .ok (.iload_n 1, 1) := by decide +kernel
theorem dX4_doCommand_140 : decode cX4_doCommand 140 = .ok (.iconst 2, 1) := by decide +kernel
theorem dX4_doCommand_141 : decode cX4_doCommand 141 = .ok (.iadd, 1) := by decide +kernel
theorem dX4_doCommand_142 : decode cX4_doCommand 142 = .ok (.iconst 1, 1) := by decide +kernel
theorem dX4_doCommand_143 : decode cX4_doCommand 143 = .ok (.invokevirtual 63, 3) := by decide +kernel
theorem dX4_doCommand_146 : decode cX4_doCommand 146 = .ok (.aload_n 0, 1) := by decide +kernel
theorem dX4_doCommand_147 : decode cX4_doCommand 147 = .ok (.iload_n 1, 1) := by decide +kernel
theorem dX4_doCommand_148 : decode cX4_doCommand 148 = .ok (.iconst 3, 1) := by decide +kernel
theorem dX4_doCommand_149 : decode cX4_doCommand 149 = .ok (.iadd, 1) := by decide +kernel
theorem dX4_doCommand_150 : decode cX4_doCommand 150 = .ok (.invokevirtual 35, 3) := by decide +kernel
theorem dX4_doCommand_153 : decode cX4_doCommand 153 = .ok (.bipush 43, 2) := by decide +kernel
theorem dX4_doCommand_155 : decode cX4_doCommand 155 = .ok (.if_icmp .ne 7, 3) := by decide +kernel
theorem dX4_doCommand_158 : decode cX4_doCommand 158 = .ok (.iconst 1, 1) := by decide +kernel
theorem dX4_doCommand_159 : decode cX4_doCommand 159 = .ok (.goto 4, 3) := by decide +kernel
theorem dX4_doCommand_162 : decode cX4_doCommand 162 = .ok (.iconst 0, 1) := by decide +kernel
theorem dX4_doCommand_163 : decode cX4_doCommand 163 = .ok (.invokevirtual 67, 3) := by decide +kernel
theorem dX4_doCommand_166 : decode cX4_doCommand 166 = .ok (.ireturn, 1) := by decide +kernel
theorem dX4_doCommand_167 : decode cX4_doCommand 167 = .ok (.aload_n 2, 1) := by decide +kernel
theorem dX4_doCommand_168 : decode cX4_doCommand 168 = .ok (.iconst 5, 1) := by decide +kernel
theorem dX4_doCommand_169 : decode cX4_doCommand 169 = .ok (.iload_n 3, 1) := by decide +kernel
theorem dX4_doCommand_170 : decode cX4_doCommand 170 = .ok (.aload_n 0, 1) := by decide +kernel
theorem dX4_doCommand_171 : decode cX4_doCommand 171 = .ok (.iload_n 1, 1) := by decide +kernel
theorem dX4_doCommand_172 : decode cX4_doCommand 172 = .ok (.iconst 2, 1) := by decide +kernel
theorem dX4_doCommand_173 : decode cX4_doCommand 173 = .ok (.iadd, 1) := by decide +kernel
theorem dX4_doCommand_174 : decode cX4_doCommand 174 = .ok (.iconst 1, 1) := by decide +kernel
theorem dX4_doCommand_175 : decode cX4_doCommand 175 = .ok (.invokevirtual 63, 3) := by decide +kernel
theorem dX4_doCommand_178 : decode cX4_doCommand 178 = .ok (.iconst 0, 1) := by decide +kernel
theorem dX4_doCommand_179 : decode cX4_doCommand 179 = .ok (.invokevirtual 67, 3) := by decide +kernel
theorem dX4_doCommand_182 : decode cX4_doCommand 182 = .ok (.ireturn, 1) := by decide +kernel
theorem dX4_doCommand_183 : decode cX4_doCommand 183 = .ok (.aload_n 2, 1) := by decide +kernel
theorem dX4_doCommand_184 : decode cX4_doCommand 184 = .ok (.bipush 6, 2) := by decide +kernel
theorem dX4_doCommand_186 : decode cX4_doCommand 186 = .ok (.iload_n 3, 1) := by decide +kernel
theorem dX4_doCommand_187 : decode cX4_doCommand 187 = .ok (.aload_n 0, 1) := by decide +kernel
theorem dX4_doCommand_188 : decode cX4_doCommand 188 = .ok (.iload_n 1, 1) := by decide +kernel
theorem dX4_doCommand_189 : decode cX4_doCommand 189 = .ok (.iconst 2, 1) := by decide +kernel
theorem dX4_doCommand_190 : decode cX4_doCommand 190 = .ok (.iadd, 1) := by decide +kernel
theorem dX4_doCommand_191 : decode cX4_doCommand 191 = .ok (.iconst 2, 1) := by decide +kernel
theorem dX4_doCommand_192 : decode cX4_doCommand 192 = .ok (.invokevirtual 63, 3) := by decide +kernel
theorem dX4_doCommand_195 : decode cX4_doCommand 195 = .ok (.iconst 0, 1) := by decide +kernel
theorem dX4_doCommand_196 : decode cX4_doCommand 196 = .ok (.invokevirtual 67, 3) := by decide +kernel
theorem dX4_doCommand_199 : decode cX4_doCommand 199 = .ok (.ireturn, 1) := by decide +kernel
theorem dX4_doCommand_200 : decode cX4_doCommand 200 = .ok (.aload_n 2, 1) := by decide +kernel
theorem dX4_doCommand_201 : decode cX4_doCommand 201 = .ok (.bipush 7, 2) := by decide +kernel
theorem dX4_doCommand_203 : decode cX4_doCommand 203 = .ok (.aload_n 0, 1) := by decide +kernel
theorem dX4_doCommand_204 : decode cX4_doCommand 204 = .ok (.iload_n 1, 1) := by decide +kernel
theorem dX4_doCommand_205 : decode cX4_doCommand 205 = .ok (.iconst 1, 1) := by decide +kernel
theorem dX4_doCommand_206 : decode cX4_doCommand 206 = .ok (.iadd, 1) := by decide +kernel
theorem dX4_doCommand_207 : decode cX4_doCommand 207 = .ok (.iconst 2, 1) := by decide +kernel
theorem dX4_doCommand_208 : decode cX4_doCommand 208 = .ok (.invokevirtual 63, 3) := by decide +kernel
theorem dX4_doCommand_211 : decode cX4_doCommand 211 = .ok (.iconst 0, 1) := by decide +kernel
theorem dX4_doCommand_212 : decode cX4_doCommand 212 = .ok (.iconst 0, 1) := by decide +kernel
theorem dX4_doCommand_213 : decode cX4_doCommand 213 = .ok (.invokevirtual 67, 3) := by decide +kernel
theorem dX4_doCommand_216 : decode cX4_doCommand 216 = .ok (.ireturn, 1) := by decide +kernel

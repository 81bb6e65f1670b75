theorem dX0_init_0 : decode cX0_init 0 = .ok (.aload_n 0, 1) := by decide +kernel
theorem dX0_init_1 : decode cX0_init 1 = .ok (.invokespecial 3, 3) := by decide +kernel
theorem dX0_init_4 : decode cX0_init 4 = .ok (.aload_n 0, 1) := by decide +kernel
theorem dX0_init_5 : decode cX0_init 5 = .ok (.bipush 10, 2) := by decide +kernel
theorem dX0_init_7 : decode cX0_init 7 = .ok (.anewarray 9, 3) := by decide +kernel
theorem dX0_init_10 : decode cX0_init 10 = .ok (.putfield 11, 3) := by decide +kernel
theorem dX0_init_13 : decode cX0_init 13 = .ok (.aload_n 0, 1) := by decide +kernel
theorem dX0_init_14 : decode cX0_init 14 = .ok (.bipush 28, 2) := by decide +kernel
theorem dX0_init_16 : decode cX0_init 16 = .ok (.newarray .boolean, 2) := by decide +kernel
theorem dX0_init_18 : decode cX0_init 18 = .ok (.putfield 17, 3) := by decide +kernel
theorem dX0_init_21 : decode cX0_init 21 = .ok (.aload_n 0, 1) := by decide +kernel
theorem dX0_init_22 : decode cX0_init 22 = .ok (.iconst 4, 1) := by decide +kernel
theorem dX0_init_23 : decode cX0_init 23 = .ok (.newarray .int, 2) := by decide +kernel
theorem dX0_init_25 : decode cX0_init 25 = .ok (.putfield 21, 3) := by decide +kernel
theorem dX0_init_28 : decode cX0_init 28 = .ok (.aload_n 0, 1) := by decide +kernel
theorem dX0_init_29 : decode cX0_init 29 = .ok (.iconst 5, 1) := by decide +kernel
theorem dX0_init_30 : decode cX0_init 30 = .ok (.newarray .int, 2) := by decide +kernel
theorem dX0_init_32 : decode cX0_init 32 = .ok (.putfield 25, 3) := by decide +kernel
theorem dX0_init_35 : decode cX0_init 35 = .ok (.aload_n 0, 1) := by decide +kernel
theorem dX0_init_36 : decode cX0_init 36 = .ok (.bipush 10, 2) := by decide +kernel
theorem dX0_init_38 : decode cX0_init 38 = .ok (.newarray .int, 2) := by decide +kernel
theorem dX0_init_40 : decode cX0_init 40 = .ok (.putfield 28, 3) := by decide +kernel
theorem dX0_init_43 : decode cX0_init 43 = .ok (.iconst 0, 1) := by decide +kernel
theorem dX0_init_44 : decode cX0_init 44 = .ok (.istore_n 1, 1) := by decide +kernel
theorem dX0_init_45 : decode cX0_init 45 = .ok (.iload_n 1, 1) := by decide +kernel
theorem dX0_init_46 : decode cX0_init 46 = .ok (.bipush 10, 2) := by decide +kernel
theorem dX0_init_48 : decode cX0_init 48 = .ok (.if_icmp .ge 22, 3) := by decide +kernel
theorem dX0_init_51 : decode cX0_init 51 = .ok (.aload_n 0, 1) := by decide +kernel
theorem dX0_init_52 : decode cX0_init 52 = .ok (.getfield 11, 3) := by decide +kernel
theorem dX0_init_55 : decode cX0_init 55 = .ok (.iload_n 1, 1) := by decide +kernel
theorem dX0_init_56 : decode cX0_init 56 = .ok (.new 9, 3) := by decide +kernel
theorem dX0_init_59 : decode cX0_init 59 = .ok (.dup, 1) := by decide +kernel
theorem dX0_init_60 : decode cX0_init 60 = .ok (.invokespecial 31, 3) := by decide +kernel
theorem dX0_init_63 : decode cX0_init 63 = .ok (.aastore, 1) := by decide +kernel
theorem dX0_init_64 : decode cX0_init 64 = .ok (.iinc 1 1, 3) := by decide +kernel
theorem dX0_init_67 : decode cX0_init 67 = .ok (.goto (-22), 3) := by decide +kernel
theorem dX0_init_70 : decode cX0_init 70 = .ok (.aload_n 0, 1) := by decide +kernel
theorem dX0_init_71 : decode cX0_init 71 = .ok (.invokevirtual 32, 3) := by decide +kernel
theorem dX0_init_74 : decode cX0_init 74 = .ok (.return_, 1) := by decide +kernel
theorem dX0_makeNew_0 : decode cX0_makeNew 0 = .ok (.aload_n 0, 1) := by decide +kernel
theorem dX0_makeNew_1 : decode cX0_makeNew 1 = .ok (.iconst 0, 1) := by decide +kernel
theorem dX0_makeNew_2 : decode cX0_makeNew 2 = .ok (.putfield 35, 3) := by decide +kernel
theorem dX0_makeNew_5 : decode cX0_makeNew 5 = .ok (.aload_n 0, 1) := by decide +kernel
theorem dX0_makeNew_6 : decode cX0_makeNew 6 = .ok (.iconst 0, 1) := by decide +kernel
theorem dX0_makeNew_7 : decode cX0_makeNew 7 = .ok (.putfield 39, 3) := by decide +kernel
theorem dX0_makeNew_10 : decode cX0_makeNew 10 = .ok (.aload_n 0, 1) := by decide +kernel
theorem dX0_makeNew_11 : decode cX0_makeNew 11 = .ok (.iconst 0, 1) := by decide +kernel
theorem dX0_makeNew_12 : decode cX0_makeNew 12 = .ok (.putfield 42, 3) := by decide +kernel
theorem dX0_makeNew_15 : decode cX0_makeNew 15 = .ok (.aload_n 0, 1) := by decide +kernel
theorem dX0_makeNew_16 : decode cX0_makeNew 16 = .ok (.iconst 0, 1) := by decide +kernel
theorem dX0_makeNew_17 : decode cX0_makeNew 17 = .ok (.putfield 45, 3) := by decide +kernel
theorem dX0_makeNew_20 : decode cX0_makeNew 20 = .ok (.aload_n 0, 1) := by decide +kernel
theorem dX0_makeNew_21 : decode cX0_makeNew 21 = .ok (.iconst 0, 1) := by decide +kernel
theorem dX0_makeNew_22 : decode cX0_makeNew 22 = .ok (.putfield 48, 3) := by decide +kernel
theorem dX0_makeNew_25 : decode cX0_makeNew 25 = .ok (.aload_n 0, 1) := by decide +kernel
theorem dX0_makeNew_26 : decode cX0_makeNew 26 = .ok (.iconst 0, 1) := by decide +kernel
theorem dX0_makeNew_27 : decode cX0_makeNew 27 = .ok (.putfield 51, 3) := by decide +kernel
theorem dX0_makeNew_30 : decode cX0_makeNew 30 = .ok (.iconst 0, 1) := by decide +kernel
theorem dX0_makeNew_31 : decode cX0_makeNew 31 = .ok (.istore_n 1, 1) := by decide +kernel
theorem dX0_makeNew_32 : decode cX0_makeNew 32 = .ok (.iload_n 1, 1) := by decide +kernel
theorem dX0_makeNew_33 : decode cX0_makeNew 33 = .ok (.bipush 28, 2) := by decide +kernel
theorem dX0_makeNew_35 : decode cX0_makeNew 35 = .ok (.if_icmp .ge 16, 3) := by decide +kernel
theorem dX0_makeNew_38 : decode cX0_makeNew 38 = .ok (.aload_n 0, 1) := by decide +kernel
theorem dX0_makeNew_39 : decode cX0_makeNew 39 = .ok (.getfield 17, 3) := by decide +kernel
theorem dX0_makeNew_42 : decode cX0_makeNew 42 = .ok (.iload_n 1, 1) := by decide +kernel
theorem dX0_makeNew_43 : decode cX0_makeNew 43 = .ok (.iconst 0, 1) := by decide +kernel
theorem dX0_makeNew_44 : decode cX0_makeNew 44 = .ok (.bastore, 1) := by decide +kernel
theorem dX0_makeNew_45 : decode cX0_makeNew 45 = .ok (.iinc 1 1, 3) := by decide +kernel
theorem dX0_makeNew_48 : decode cX0_makeNew 48 = .ok (.goto (-16), 3) := by decide +kernel
theorem dX0_makeNew_51 : decode cX0_makeNew 51 = .ok (.iconst 0, 1) := by decide +kernel
theorem dX0_makeNew_52 : decode cX0_makeNew 52 = .ok (.istore_n 1, 1) := by decide +kernel
theorem dX0_makeNew_53 : decode cX0_makeNew 53 = .ok (.iload_n 1, 1) := by decide +kernel
theorem dX0_makeNew_54 : decode cX0_makeNew 54 = .ok (.iconst 4, 1) := by decide +kernel
theorem dX0_makeNew_55 : decode cX0_makeNew 55 = .ok (.if_icmp .ge 16, 3) := by decide +kernel
theorem dX0_makeNew_58 : decode cX0_makeNew 58 = .ok (.aload_n 0, 1) := by decide +kernel
theorem dX0_makeNew_59 : decode cX0_makeNew 59 = .ok (.getfield 21, 3) := by decide +kernel
theorem dX0_makeNew_62 : decode cX0_makeNew 62 = .ok (.iload_n 1, 1) := by decide +kernel
theorem dX0_makeNew_63 : decode cX0_makeNew 63 = .ok (.iload_n 1, 1) := by decide +kernel
theorem dX0_makeNew_64 : decode cX0_makeNew 64 = .ok (.iastore, 1) := by decide +kernel
theorem dX0_makeNew_65 : decode cX0_makeNew 65 = .ok (.iinc 1 1, 3) := by decide +kernel
theorem dX0_makeNew_68 : decode cX0_makeNew 68 = .ok (.goto (-15), 3) := by decide +kernel
theorem dX0_makeNew_71 : decode cX0_makeNew 71 = .ok (.getstatic 54, 3) := by decide +kernel
theorem dX0_makeNew_74 : decode cX0_makeNew 74 = .ok (.iconst 0, 1) := by decide +kernel
theorem dX0_makeNew_75 : decode cX0_makeNew 75 = .ok (.aload_n 0, 1) := by decide +kernel
theorem dX0_makeNew_76 : decode cX0_makeNew 76 = .ok (.getfield 25, 3) := by decide +kernel
theorem dX0_makeNew_79 : decode cX0_makeNew 79 = .ok (.iconst 0, 1) := by decide +kernel
theorem dX0_makeNew_80 : decode cX0_makeNew 80 = .ok (.iconst 5, 1) := by decide +kernel
theorem dX0_makeNew_81 : decode cX0_makeNew 81 = .ok (.invokestatic 57, 3) := by decide +kernel
theorem dX0_makeNew_84 : decode cX0_makeNew 84 = .ok (.return_, 1) := by decide +kernel
theorem dX0_copyFrom_0 : decode cX0_copyFrom 0 = .ok (.aload_n 0, 1) := by decide +kernel
theorem dX0_copyFrom_1 : decode cX0_copyFrom 1 = .ok (.aload_n 1, 1) := by decide +kernel
theorem dX0_copyFrom_2 : decode cX0_copyFrom 2 = .ok (.getfield 35, 3) := by decide +kernel
theorem dX0_copyFrom_5 : decode cX0_copyFrom 5 = .ok (.putfield 35, 3) := by decide +kernel
theorem dX0_copyFrom_8 : decode cX0_copyFrom 8 = .ok (.aload_n 0, 1) := by decide +kernel
theorem dX0_copyFrom_9 : decode cX0_copyFrom 9 = .ok (.aload_n 1, 1) := by decide +kernel
theorem dX0_copyFrom_10 : decode cX0_copyFrom 10 = .ok (.getfield 39, 3) := by decide +kernel
theorem dX0_copyFrom_13 : decode cX0_copyFrom 13 = .ok (.putfield 39, 3) := by decide +kernel
theorem dX0_copyFrom_16 : decode cX0_copyFrom 16 = .ok (.aload_n 0, 1) := by decide +kernel
theorem dX0_copyFrom_17 : decode cX0_copyFrom 17 = .ok (.aload_n 1, 1) := by decide +kernel
theorem dX0_copyFrom_18 : decode cX0_copyFrom 18 = .ok (.getfield 42, 3) := by decide +kernel
theorem dX0_copyFrom_21 : decode cX0_copyFrom 21 = .ok (.putfield 42, 3) := by decide +kernel
theorem dX0_copyFrom_24 : decode cX0_copyFrom 24 = .ok (.aload_n 0, 1) := by decide +kernel
theorem dX0_copyFrom_25 : decode cX0_copyFrom 25 = .ok (.aload_n 1, 1) := by decide +kernel
theorem dX0_copyFrom_26 : decode cX0_copyFrom 26 = .ok (.getfield 45, 3) := by decide +kernel
theorem dX0_copyFrom_29 : decode cX0_copyFrom 29 = .ok (.putfield 45, 3) := by decide +kernel
theorem dX0_copyFrom_32 : decode cX0_copyFrom 32 = .ok (.aload_n 0, 1) := by decide +kernel
theorem dX0_copyFrom_33 : decode cX0_copyFrom 33 = .ok (.aload_n 1, 1) := by decide +kernel
theorem dX0_copyFrom_34 : decode cX0_copyFrom 34 = .ok (.getfield 48, 3) := by decide +kernel
theorem dX0_copyFrom_37 : decode cX0_copyFrom 37 = .ok (.putfield 48, 3) := by decide +kernel
theorem dX0_copyFrom_40 : decode cX0_copyFrom 40 = .ok (.aload_n 0, 1) := by decide +kernel
theorem dX0_copyFrom_41 : decode cX0_copyFrom 41 = .ok (.aload_n 1, 1) := by decide +kernel
theorem dX0_copyFrom_42 : decode cX0_copyFrom 42 = .ok (.getfield 51, 3) := by decide +kernel
theorem dX0_copyFrom_45 : decode cX0_copyFrom 45 = .ok (.putfield 51, 3) := by decide +kernel
theorem dX0_copyFrom_48 : decode cX0_copyFrom 48 = .ok (.iconst 0, 1) := by decide +kernel
theorem dX0_copyFrom_49 : decode cX0_copyFrom 49 = .ok (.istore_n 2, 1) := by decide +kernel
theorem dX0_copyFrom_50 : decode cX0_copyFrom 50 = .ok (.iload_n 2, 1) := by decide +kernel
theorem dX0_copyFrom_51 : decode cX0_copyFrom 51 = .ok (.aload_n 0, 1) := by decide +kernel
theorem dX0_copyFrom_52 : decode cX0_copyFrom 52 = .ok (.getfield 35, 3) := by decide +kernel
theorem dX0_copyFrom_55 : decode cX0_copyFrom 55 = .ok (.if_icmp .ge 24, 3) := by decide +kernel
theorem dX0_copyFrom_58 : decode cX0_copyFrom 58 = .ok (.aload_n 0, 1) := by decide +kernel
theorem dX0_copyFrom_59 : decode cX0_copyFrom 59 = .ok (.getfield 11, 3) := by decide +kernel
theorem dX0_copyFrom_62 : decode cX0_copyFrom 62 = .ok (.iload_n 2, 1) := by decide +kernel
theorem dX0_copyFrom_63 : decode cX0_copyFrom 63 = .ok (.aaload, 1) := by decide +kernel
theorem dX0_copyFrom_64 : decode cX0_copyFrom 64 = .ok (.aload_n 1, 1) := by decide +kernel
theorem dX0_copyFrom_65 : decode cX0_copyFrom 65 = .ok (.getfield 11, 3) := by decide +kernel
theorem dX0_copyFrom_68 : decode cX0_copyFrom 68 = .ok (.iload_n 2, 1) := by decide +kernel
theorem dX0_copyFrom_69 : decode cX0_copyFrom 69 = .ok (.aaload, 1) := by decide +kernel
theorem dX0_copyFrom_70 : decode cX0_copyFrom 70 = .ok (.invokevirtual 63, 3) := by decide +kernel
theorem dX0_copyFrom_73 : decode cX0_copyFrom 73 = .ok (.iinc 2 1, 3) := by decide +kernel
theorem dX0_copyFrom_76 : decode cX0_copyFrom 76 = .ok (.goto (-26), 3) := by decide +kernel
theorem dX0_copyFrom_79 : decode cX0_copyFrom 79 = .ok (.iconst 0, 1) := by decide +kernel
theorem dX0_copyFrom_80 : decode cX0_copyFrom 80 = .ok (.istore_n 2, 1) := by decide +kernel
theorem dX0_copyFrom_81 : decode cX0_copyFrom 81 = .ok (.iload_n 2, 1) := by decide +kernel
theorem dX0_copyFrom_82 : decode cX0_copyFrom 82 = .ok (.bipush 28, 2) := by decide +kernel
theorem dX0_copyFrom_84 : decode cX0_copyFrom 84 = .ok (.if_icmp .ge 21, 3) := by decide +kernel
theorem dX0_copyFrom_87 : decode cX0_copyFrom 87 = .ok (.aload_n 0, 1) := by decide +kernel
theorem dX0_copyFrom_88 : decode cX0_copyFrom 88 = .ok (.getfield 17, 3) := by decide +kernel
theorem dX0_copyFrom_91 : decode cX0_copyFrom 91 = .ok (.iload_n 2, 1) := by decide +kernel
theorem dX0_copyFrom_92 : decode cX0_copyFrom 92 = .ok (.aload_n 1, 1) := by decide +kernel
theorem dX0_copyFrom_93 : decode cX0_copyFrom 93 = .ok (.getfield 17, 3) := by decide +kernel
theorem dX0_copyFrom_96 : decode cX0_copyFrom 96 = .ok (.iload_n 2, 1) := by decide +kernel
theorem dX0_copyFrom_97 : decode cX0_copyFrom 97 = .ok (.baload, 1) := by decide +kernel
theorem dX0_copyFrom_98 : decode cX0_copyFrom 98 = .ok (.bastore, 1) := by decide +kernel
theorem dX0_copyFrom_99 : decode cX0_copyFrom 99 = .ok (.iinc 2 1, 3) := by decide +kernel
theorem dX0_copyFrom_102 : decode cX0_copyFrom 102 = .ok (.goto (-21), 3) := by decide +kernel
theorem dX0_copyFrom_105 : decode cX0_copyFrom 105 = .ok (.aload_n 1, 1) := by decide +kernel
theorem dX0_copyFrom_106 : decode cX0_copyFrom 106 = .ok (.getfield 21, 3) := by decide +kernel
theorem dX0_copyFrom_109 : decode cX0_copyFrom 109 = .ok (.iconst 0, 1) := by decide +kernel
theorem dX0_copyFrom_110 : decode cX0_copyFrom 110 = .ok (.aload_n 0, 1) := by decide +kernel
theorem dX0_copyFrom_111 : decode cX0_copyFrom 111 = .ok (.getfield 21, 3) := by decide +kernel
theorem dX0_copyFrom_114 : decode cX0_copyFrom 114 = .ok (.iconst 0, 1) := by decide +kernel
theorem dX0_copyFrom_115 : decode cX0_copyFrom 115 = .ok (.iconst 4, 1) := by decide +kernel
theorem dX0_copyFrom_116 : decode cX0_copyFrom 116 = .ok (.invokestatic 57, 3) := by decide +kernel
theorem dX0_copyFrom_119 : decode cX0_copyFrom 119 = .ok (.aload_n 1, 1) := by decide +kernel
theorem dX0_copyFrom_120 : decode cX0_copyFrom 120 = .ok (.getfield 25, 3) := by decide +kernel
theorem dX0_copyFrom_123 : decode cX0_copyFrom 123 = .ok (.iconst 0, 1) := by decide +kernel
theorem dX0_copyFrom_124 : decode cX0_copyFrom 124 = .ok (.aload_n 0, 1) := by decide +kernel
theorem dX0_copyFrom_125 : decode cX0_copyFrom 125 = .ok (.getfield 25, 3) := by decide +kernel
theorem dX0_copyFrom_128 : decode cX0_copyFrom 128 = .ok (.iconst 0, 1) := by decide +kernel
theorem dX0_copyFrom_129 : decode cX0_copyFrom 129 = .ok (.iconst 5, 1) := by decide +kernel
theorem dX0_copyFrom_130 : decode cX0_copyFrom 130 = .ok (.invokestatic 57, 3) := by decide +kernel
theorem dX0_copyFrom_133 : decode cX0_copyFrom 133 = .ok (.return_, 1) := by decide +kernel
theorem dX0_numberOf_0 : decode cX0_numberOf 0 = .ok (.iload_n 1, 1) := by decide +kernel
theorem dX0_numberOf_1 : decode cX0_numberOf 1 = .ok (.tableswitch 131 0 11 #[63, 68, 73, 78, 84, 90, 95, 101, 107, 112, 117, 124], 63) := by decide +kernel
theorem dX0_numberOf_64 : decode cX0_numberOf 64 = .ok (.aload_n 0, 1) := by decide +kernel
theorem dX0_numberOf_65 : decode cX0_numberOf 65 = .ok (.getfield 35, 3) := by decide +kernel
theorem dX0_numberOf_68 : decode cX0_numberOf 68 = .ok (.ireturn, 1) := by decide +kernel
theorem dX0_numberOf_69 : decode cX0_numberOf 69 = .ok (.aload_n 0, 1) := by decide +kernel
theorem dX0_numberOf_70 : decode cX0_numberOf 70 = .ok (.getfield 39, 3) := by decide +kernel
theorem dX0_numberOf_73 : decode cX0_numberOf 73 = .ok (.ireturn, 1) := by decide +kernel
theorem dX0_numberOf_74 : decode cX0_numberOf 74 = .ok (.aload_n 0, 1) := by decide +kernel
theorem dX0_numberOf_75 : decode cX0_numberOf 75 = .ok (.getfield 42, 3) := by decide +kernel
theorem dX0_numberOf_78 : decode cX0_numberOf 78 = .ok (.ireturn, 1) := by decide +kernel
theorem dX0_numberOf_79 : decode cX0_numberOf 79 = .ok (.aload_n 0, 1) := by decide +kernel
theorem dX0_numberOf_80 : decode cX0_numberOf 80 = .ok (.iconst 3, 1) := by decide +kernel
theorem dX0_numberOf_81 : decode cX0_numberOf 81 = .ok (.invokevirtual 67, 3) := by decide +kernel
theorem dX0_numberOf_84 : decode cX0_numberOf 84 = .ok (.ireturn, 1) := by decide +kernel
theorem dX0_numberOf_85 : decode cX0_numberOf 85 = .ok (.aload_n 0, 1) := by decide +kernel
theorem dX0_numberOf_86 : decode cX0_numberOf 86 = .ok (.iconst 4, 1) := by decide +kernel
theorem dX0_numberOf_87 : decode cX0_numberOf 87 = .ok (.invokevirtual 67, 3) := by decide +kernel
theorem dX0_numberOf_90 : decode cX0_numberOf 90 = .ok (.ireturn, 1) := by decide +kernel
theorem dX0_numberOf_91 : decode cX0_numberOf 91 = .ok (.aload_n 0, 1) := by decide +kernel
theorem dX0_numberOf_92 : decode cX0_numberOf 92 = .ok (.getfield 45, 3) := by decide +kernel
theorem dX0_numberOf_95 : decode cX0_numberOf 95 = .ok (.ireturn, 1) := by decide +kernel
theorem dX0_numberOf_96 : decode cX0_numberOf 96 = .ok (.aload_n 0, 1) := by decide +kernel
theorem dX0_numberOf_97 : decode cX0_numberOf 97 = .ok (.iconst 2, 1) := by decide +kernel
theorem dX0_numberOf_98 : decode cX0_numberOf 98 = .ok (.invokevirtual 67, 3) := by decide +kernel
theorem dX0_numberOf_101 : decode cX0_numberOf 101 = .ok (.ireturn, 1) := by decide +kernel
theorem dX0_numberOf_102 : decode cX0_numberOf 102 = .ok (.aload_n 0, 1) := by decide +kernel
theorem dX0_numberOf_103 : decode cX0_numberOf 103 = .ok (.iconst 5, 1) := by decide +kernel
theorem dX0_numberOf_104 : decode cX0_numberOf 104 = .ok (.invokevirtual 67, 3) := by decide +kernel
theorem dX0_numberOf_107 : decode cX0_numberOf 107 = .ok (.ireturn, 1) := by decide +kernel
theorem dX0_numberOf_108 : decode cX0_numberOf 108 = .ok (.aload_n 0, 1) := by decide +kernel
theorem dX0_numberOf_109 : decode cX0_numberOf 109 = .ok (.getfield 48, 3) := by decide +kernel
theorem dX0_numberOf_112 : decode cX0_numberOf 112 = .ok (.ireturn, 1) := by decide +kernel
theorem dX0_numberOf_113 : decode cX0_numberOf 113 = .ok (.aload_n 0, 1) := by decide +kernel
theorem dX0_numberOf_114 : decode cX0_numberOf 114 = .ok (.getfield 51, 3) := by decide +kernel
theorem dX0_numberOf_117 : decode cX0_numberOf 117 = .ok (.ireturn, 1) := by decide +kernel
theorem dX0_numberOf_118 : decode cX0_numberOf 118 = .ok (.aload_n 0, 1) := by decide +kernel
theorem dX0_numberOf_119 : decode cX0_numberOf 119 = .ok (.bipush 6, 2) := by decide +kernel
theorem dX0_numberOf_121 : decode cX0_numberOf 121 = .ok (.invokevirtual 67, 3) := by decide +kernel
theorem dX0_numberOf_124 : decode cX0_numberOf 124 = .ok (.ireturn, 1) := by decide +kernel
theorem dX0_numberOf_125 : decode cX0_numberOf 125 = .ok (.aload_n 0, 1) := by decide +kernel
theorem dX0_numberOf_126 : decode cX0_numberOf 126 = .ok (.bipush 7, 2) := by decide +kernel
theorem dX0_numberOf_128 : decode cX0_numberOf 128 = .ok (.invokevirtual 67, 3) := by decide +kernel
theorem dX0_numberOf_131 : decode cX0_numberOf 131 = .ok (.ireturn, 1) := by decide +kernel
theorem dX0_numberOf_132 : decode cX0_numberOf 132 = .ok (.aload_n 0, 1) := by decide +kernel
theorem dX0_numberOf_133 : decode cX0_numberOf 133 = .ok (.invokevirtual 71, 3) := by decide +kernel
theorem dX0_numberOf_136 : decode cX0_numberOf 136 = .ok (.ireturn, 1) := by decide +kernel
theorem dX0_sumOf_0 : decode cX0_sumOf 0 = .ok (.iconst 0, 1) := by decide +kernel
theorem dX0_sumOf_1 : decode cX0_sumOf 1 = .ok (.istore_n 2, 1) := by decide +kernel
theorem dX0_sumOf_2 : decode cX0_sumOf 2 = .ok (.iconst 0, 1) := by decide +kernel
theorem dX0_sumOf_3 : decode cX0_sumOf 3 = .ok (.istore_n 3, 1) := by decide +kernel
theorem dX0_sumOf_4 : decode cX0_sumOf 4 = .ok (.iload_n 3, 1) := by decide +kernel
theorem dX0_sumOf_5 : decode cX0_sumOf 5 = .ok (.aload_n 0, 1) := by decide +kernel
theorem dX0_sumOf_6 : decode cX0_sumOf 6 = .ok (.getfield 35, 3) := by decide +kernel
theorem dX0_sumOf_9 : decode cX0_sumOf 9 = .ok (.if_icmp .ge 22, 3) := by decide +kernel
theorem dX0_sumOf_12 : decode cX0_sumOf 12 = .ok (.iload_n 2, 1) := by decide +kernel
theorem dX0_sumOf_13 : decode cX0_sumOf 13 = .ok (.aload_n 0, 1) := by decide +kernel
theorem dX0_sumOf_14 : decode cX0_sumOf 14 = .ok (.getfield 11, 3) := by decide +kernel
theorem dX0_sumOf_17 : decode cX0_sumOf 17 = .ok (.iload_n 3, 1) := by decide +kernel
theorem dX0_sumOf_18 : decode cX0_sumOf 18 = .ok (.aaload, 1) := by decide +kernel
theorem dX0_sumOf_19 : decode cX0_sumOf 19 = .ok (.iload_n 1, 1) := by decide +kernel
theorem dX0_sumOf_20 : decode cX0_sumOf 20 = .ok (.invokevirtual 75, 3) := by decide +kernel
theorem dX0_sumOf_23 : decode cX0_sumOf 23 = .ok (.iadd, 1) := by decide +kernel
theorem dX0_sumOf_24 : decode cX0_sumOf 24 = .ok (.istore_n 2, 1) := by decide +kernel
theorem dX0_sumOf_25 : decode cX0_sumOf 25 = .ok (.iinc 3 1, 3) := by decide +kernel
theorem dX0_sumOf_28 : decode cX0_sumOf 28 = .ok (.goto (-24), 3) := by decide +kernel
theorem dX0_sumOf_31 : decode cX0_sumOf 31 = .ok (.iload_n 2, 1) := by decide +kernel
theorem dX0_sumOf_32 : decode cX0_sumOf 32 = .ok (.ireturn, 1) := by decide +kernel
theorem dX0_loavesGot_0 : decode cX0_loavesGot 0 = .ok (.aload_n 0, 1) := by decide +kernel
theorem dX0_loavesGot_1 : decode cX0_loavesGot 1 = .ok (.iconst 3, 1) := by decide +kernel
theorem dX0_loavesGot_2 : decode cX0_loavesGot 2 = .ok (.invokevirtual 67, 3) := by decide +kernel
theorem dX0_loavesGot_5 : decode cX0_loavesGot 5 = .ok (.aload_n 0, 1) := by decide +kernel
theorem dX0_loavesGot_6 : decode cX0_loavesGot 6 = .ok (.iconst 4, 1) := by decide +kernel
theorem dX0_loavesGot_7 : decode cX0_loavesGot 7 = .ok (.invokevirtual 67, 3) := by decide +kernel
theorem dX0_loavesGot_10 : decode cX0_loavesGot 10 = .ok (.iadd, 1) := by decide +kernel
theorem dX0_loavesGot_11 : decode cX0_loavesGot 11 = .ok (.ireturn, 1) := by decide +kernel
theorem dX0_dueToAll_0 : decode cX0_dueToAll 0 = .ok (.iconst 0, 1) := by decide +kernel
theorem dX0_dueToAll_1 : decode cX0_dueToAll 1 = .ok (.istore_n 1, 1) := by decide +kernel
theorem dX0_dueToAll_2 : decode cX0_dueToAll 2 = .ok (.iconst 0, 1) := by decide +kernel
theorem dX0_dueToAll_3 : decode cX0_dueToAll 3 = .ok (.istore_n 2, 1) := by decide +kernel
theorem dX0_dueToAll_4 : decode cX0_dueToAll 4 = .ok (.iload_n 2, 1) := by decide +kernel
theorem dX0_dueToAll_5 : decode cX0_dueToAll 5 = .ok (.aload_n 0, 1) := by decide +kernel
theorem dX0_dueToAll_6 : decode cX0_dueToAll 6 = .ok (.getfield 35, 3) := by decide +kernel
theorem dX0_dueToAll_9 : decode cX0_dueToAll 9 = .ok (.if_icmp .ge 25, 3) := by decide +kernel
theorem dX0_dueToAll_12 : decode cX0_dueToAll 12 = .ok (.iload_n 1, 1) := by decide +kernel
theorem dX0_dueToAll_13 : decode cX0_dueToAll 13 = .ok (.aload_n 0, 1) := by decide +kernel
theorem dX0_dueToAll_14 : decode cX0_dueToAll 14 = .ok (.getfield 11, 3) := by decide +kernel
theorem dX0_dueToAll_17 : decode cX0_dueToAll 17 = .ok (.iload_n 2, 1) := by decide +kernel
theorem dX0_dueToAll_18 : decode cX0_dueToAll 18 = .ok (.aaload, 1) := by decide +kernel
theorem dX0_dueToAll_19 : decode cX0_dueToAll 19 = .ok (.aload_n 0, 1) := by decide +kernel
theorem dX0_dueToAll_20 : decode cX0_dueToAll 20 = .ok (.getfield 39, 3) := by decide +kernel
theorem dX0_dueToAll_23 : decode cX0_dueToAll 23 = .ok (.invokevirtual 78, 3) := by decide +kernel
theorem dX0_dueToAll_26 : decode cX0_dueToAll 26 = .ok (.iadd, 1) := by decide +kernel
theorem dX0_dueToAll_27 : decode cX0_dueToAll 27 = .ok (.istore_n 1, 1) := by decide +kernel
theorem dX0_dueToAll_28 : decode cX0_dueToAll 28 = .ok (.iinc 2 1, 3) := by decide +kernel
theorem dX0_dueToAll_31 : decode cX0_dueToAll 31 = .ok (.goto (-27), 3) := by decide +kernel
theorem dX0_dueToAll_34 : decode cX0_dueToAll 34 = .ok (.iload_n 1, 1) := by decide +kernel
theorem dX0_dueToAll_35 : decode cX0_dueToAll 35 = .ok (.ireturn, 1) := by decide +kernel
theorem dX0_dueInOpenStreets_0 : decode cX0_dueInOpenStreets 0 = .ok (.iconst 0, 1) := by decide +kernel
theorem dX0_dueInOpenStreets_1 : decode cX0_dueInOpenStreets 1 = .ok (.istore_n 2, 1) := by decide +kernel
theorem dX0_dueInOpenStreets_2 : decode cX0_dueInOpenStreets 2 = .ok (.iconst 0, 1) := by decide +kernel
theorem dX0_dueInOpenStreets_3 : decode cX0_dueInOpenStreets 3 = .ok (.istore_n 3, 1) := by decide +kernel
theorem dX0_dueInOpenStreets_4 : decode cX0_dueInOpenStreets 4 = .ok (.iload_n 3, 1) := by decide +kernel
theorem dX0_dueInOpenStreets_5 : decode cX0_dueInOpenStreets 5 = .ok (.aload_n 0, 1) := by decide +kernel
theorem dX0_dueInOpenStreets_6 : decode cX0_dueInOpenStreets 6 = .ok (.getfield 35, 3) := by decide +kernel
theorem dX0_dueInOpenStreets_9 : decode cX0_dueInOpenStreets 9 = .ok (.if_icmp .ge 42, 3) := by decide +kernel
theorem dX0_dueInOpenStreets_12 : decode cX0_dueInOpenStreets 12 = .ok (.aload_n 0, 1) := by decide +kernel
theorem dX0_dueInOpenStreets_13 : decode cX0_dueInOpenStreets 13 = .ok (.aload_n 0, 1) := by decide +kernel
theorem dX0_dueInOpenStreets_14 : decode cX0_dueInOpenStreets 14 = .ok (.getfield 11, 3) := by decide +kernel
theorem dX0_dueInOpenStreets_17 : decode cX0_dueInOpenStreets 17 = .ok (.iload_n 3, 1) := by decide +kernel
theorem dX0_dueInOpenStreets_18 : decode cX0_dueInOpenStreets 18 = .ok (.aaload, 1) := by decide +kernel
theorem dX0_dueInOpenStreets_19 : decode cX0_dueInOpenStreets 19 = .ok (.getfield 81, 3) := by decide +kernel
theorem dX0_dueInOpenStreets_22 : decode cX0_dueInOpenStreets 22 = .ok (.iload_n 1, 1) := by decide +kernel
theorem dX0_dueInOpenStreets_23 : decode cX0_dueInOpenStreets 23 = .ok (.invokestatic 84, 3) := by decide +kernel
theorem dX0_dueInOpenStreets_26 : decode cX0_dueInOpenStreets 26 = .ok (.invokevirtual 87, 3) := by decide +kernel
theorem dX0_dueInOpenStreets_29 : decode cX0_dueInOpenStreets 29 = .ok (.ifCond .ne 16, 3) := by decide +kernel
theorem dX0_dueInOpenStreets_32 : decode cX0_dueInOpenStreets 32 = .ok (.iload_n 2, 1) := by decide +kernel
theorem dX0_dueInOpenStreets_33 : decode cX0_dueInOpenStreets 33 = .ok (.aload_n 0, 1) := by decide +kernel
theorem dX0_dueInOpenStreets_34 : decode cX0_dueInOpenStreets 34 = .ok (.getfield 11, 3) := by decide +kernel
theorem dX0_dueInOpenStreets_37 : decode cX0_dueInOpenStreets 37 = .ok (.iload_n 3, 1) := by decide +kernel
theorem dX0_dueInOpenStreets_38 : decode cX0_dueInOpenStreets 38 = .ok (.aaload, 1) := by decide +kernel
theorem dX0_dueInOpenStreets_39 : decode cX0_dueInOpenStreets 39 = .ok (.iload_n 1, 1) := by decide +kernel
theorem dX0_dueInOpenStreets_40 : decode cX0_dueInOpenStreets 40 = .ok (.invokevirtual 78, 3) := by decide +kernel
theorem dX0_dueInOpenStreets_43 : decode cX0_dueInOpenStreets 43 = .ok (.iadd, 1) := by decide +kernel
theorem dX0_dueInOpenStreets_44 : decode cX0_dueInOpenStreets 44 = .ok (.istore_n 2, 1) := by decide +kernel
theorem dX0_dueInOpenStreets_45 : decode cX0_dueInOpenStreets 45 = .ok (.iinc 3 1, 3) := by decide +kernel
theorem dX0_dueInOpenStreets_48 : decode cX0_dueInOpenStreets 48 = .ok (.goto (-44), 3) := by decide +kernel
theorem dX0_dueInOpenStreets_51 : decode cX0_dueInOpenStreets 51 = .ok (.iload_n 2, 1) := by decide +kernel
theorem dX0_dueInOpenStreets_52 : decode cX0_dueInOpenStreets 52 = .ok (.ireturn, 1) := by decide +kernel
theorem dX0_hasCustomer_0 : decode cX0_hasCustomer 0 = .ok (.iload_n 1, 1) := by decide +kernel
theorem dX0_hasCustomer_1 : decode cX0_hasCustomer 1 = .ok (.iconst 0, 1) := by decide +kernel
theorem dX0_hasCustomer_2 : decode cX0_hasCustomer 2 = .ok (.aload_n 0, 1) := by decide +kernel
theorem dX0_hasCustomer_3 : decode cX0_hasCustomer 3 = .ok (.getfield 35, 3) := by decide +kernel
theorem dX0_hasCustomer_6 : decode cX0_hasCustomer 6 = .ok (.iconst 1, 1) := by decide +kernel
theorem dX0_hasCustomer_7 : decode cX0_hasCustomer 7 = .ok (.isub, 1) := by decide +kernel
theorem dX0_hasCustomer_8 : decode cX0_hasCustomer 8 = .ok (.invokestatic 91, 3) := by decide +kernel
theorem dX0_hasCustomer_11 : decode cX0_hasCustomer 11 = .ok (.ireturn, 1) := by decide +kernel
theorem dX0_isShut_0 : decode cX0_isShut 0 = .ok (.aload_n 0, 1) := by decide +kernel
theorem dX0_isShut_1 : decode cX0_isShut 1 = .ok (.getfield 17, 3) := by decide +kernel
theorem dX0_isShut_4 : decode cX0_isShut 4 = .ok (.iload_n 1, 1) := by decide +kernel
theorem dX0_isShut_5 : decode cX0_isShut 5 = .ok (.bipush 7, 2) := by decide +kernel
theorem dX0_isShut_7 : decode cX0_isShut 7 = .ok (.imul, 1) := by decide +kernel
theorem dX0_isShut_8 : decode cX0_isShut 8 = .ok (.iload_n 2, 1) := by decide +kernel
theorem dX0_isShut_9 : decode cX0_isShut 9 = .ok (.iadd, 1) := by decide +kernel
theorem dX0_isShut_10 : decode cX0_isShut 10 = .ok (.baload, 1) := by decide +kernel
theorem dX0_isShut_11 : decode cX0_isShut 11 = .ok (.ireturn, 1) := by decide +kernel
theorem dX0_refusalOf_0 : decode cX0_refusalOf 0 = .ok (.iload_n 1, 1) := by decide +kernel
theorem dX0_refusalOf_1 : decode cX0_refusalOf 1 = .ok (.tableswitch 291 0 6 #[43, 72, 105, 168, 206, 231, 256], 43) := by decide +kernel
theorem dX0_refusalOf_44 : decode cX0_refusalOf 44 = .ok (.iload_n 2, 1) := by decide +kernel
theorem dX0_refusalOf_45 : decode cX0_refusalOf 45 = .ok (.invokestatic 95, 3) := by decide +kernel
theorem dX0_refusalOf_48 : decode cX0_refusalOf 48 = .ok (.iload_n 3, 1) := by decide +kernel
theorem dX0_refusalOf_49 : decode cX0_refusalOf 49 = .ok (.iconst 0, 1) := by decide +kernel
theorem dX0_refusalOf_50 : decode cX0_refusalOf 50 = .ok (.ldc 99, 2) := by decide +kernel
theorem dX0_refusalOf_52 : decode cX0_refusalOf 52 = .ok (.invokestatic 91, 3) := by decide +kernel
theorem dX0_refusalOf_55 : decode cX0_refusalOf 55 = .ok (.aload_n 0, 1) := by decide +kernel
theorem dX0_refusalOf_56 : decode cX0_refusalOf 56 = .ok (.getfield 35, 3) := by decide +kernel
theorem dX0_refusalOf_59 : decode cX0_refusalOf 59 = .ok (.bipush 10, 2) := by decide +kernel
theorem dX0_refusalOf_61 : decode cX0_refusalOf 61 = .ok (.if_icmp .ge 7, 3) := by decide +kernel
theorem dX0_refusalOf_64 : decode cX0_refusalOf 64 = .ok (.iconst 1, 1) := by decide +kernel
theorem dX0_refusalOf_65 : decode cX0_refusalOf 65 = .ok (.goto 4, 3) := by decide +kernel
theorem dX0_refusalOf_68 : decode cX0_refusalOf 68 = .ok (.iconst 0, 1) := by decide +kernel
theorem dX0_refusalOf_69 : decode cX0_refusalOf 69 = .ok (.invokestatic 100, 3) := by decide +kernel
theorem dX0_refusalOf_72 : decode cX0_refusalOf 72 = .ok (.areturn, 1) := by decide +kernel
theorem dX0_refusalOf_73 : decode cX0_refusalOf 73 = .ok (.aload_n 0, 1) := by decide +kernel
theorem dX0_refusalOf_74 : decode cX0_refusalOf 74 = .ok (.iload_n 2, 1) := by decide +kernel
theorem dX0_refusalOf_75 : decode cX0_refusalOf 75 = .ok (.invokevirtual 104, 3) := by decide +kernel
theorem dX0_refusalOf_78 : decode cX0_refusalOf 78 = .ok (.ifCond .eq 14, 3) := by decide +kernel
theorem dX0_refusalOf_81 : decode cX0_refusalOf 81 = .ok (.iload_n 3, 1) := by decide +kernel
theorem dX0_refusalOf_82 : decode cX0_refusalOf 82 = .ok (.invokestatic 107, 3) := by decide +kernel
theorem dX0_refusalOf_85 : decode cX0_refusalOf 85 = .ok (.ifCond .eq 7, 3) := by decide +kernel
theorem dX0_refusalOf_88 : decode cX0_refusalOf 88 = .ok (.iconst 1, 1) := by decide +kernel
theorem dX0_refusalOf_89 : decode cX0_refusalOf 89 = .ok (.goto 4, 3) := by decide +kernel
theorem dX0_refusalOf_92 : decode cX0_refusalOf 92 = .ok (.iconst 0, 1) := by decide +kernel
theorem dX0_refusalOf_93 : decode cX0_refusalOf 93 = .ok (.iload 4, 2) := by decide +kernel
theorem dX0_refusalOf_95 : decode cX0_refusalOf 95 = .ok (.iconst 0, 1) := by decide +kernel
theorem dX0_refusalOf_96 : decode cX0_refusalOf 96 = .ok (.bipush 9, 2) := by decide +kernel
theorem dX0_refusalOf_98 : decode cX0_refusalOf 98 = .ok (.invokestatic 91, 3) := by decide +kernel
theorem dX0_refusalOf_101 : decode cX0_refusalOf 101 = .ok (.iconst 1, 1) := by decide +kernel
theorem dX0_refusalOf_102 : decode cX0_refusalOf 102 = .ok (.invokestatic 100, 3) := by decide +kernel
theorem dX0_refusalOf_105 : decode cX0_refusalOf 105 = .ok (.areturn, 1) := by decide +kernel
theorem dX0_refusalOf_106 : decode cX0_refusalOf 106 = .ok (.aload_n 0, 1) := by decide +kernel
theorem dX0_refusalOf_107 : decode cX0_refusalOf 107 = .ok (.iload_n 2, 1) := by decide +kernel
theorem dX0_refusalOf_108 : decode cX0_refusalOf 108 = .ok (.invokevirtual 104, 3) := by decide +kernel
theorem dX0_refusalOf_111 : decode cX0_refusalOf 111 = .ok (.iload_n 3, 1) := by decide +kernel
theorem dX0_refusalOf_112 : decode cX0_refusalOf 112 = .ok (.iconst 0, 1) := by decide +kernel
theorem dX0_refusalOf_113 : decode cX0_refusalOf 113 = .ok (.sipush 999, 3) := by decide +kernel
theorem dX0_refusalOf_116 : decode cX0_refusalOf 116 = .ok (.invokestatic 91, 3) := by decide +kernel
theorem dX0_refusalOf_119 : decode cX0_refusalOf 119 = .ok (.ifCond .eq 19, 3) := by decide +kernel
theorem dX0_refusalOf_122 : decode cX0_refusalOf 122 = .ok (.iload 4, 2) := by decide +kernel
theorem dX0_refusalOf_124 : decode cX0_refusalOf 124 = .ok (.iload_n 3, 1) := by decide +kernel
theorem dX0_refusalOf_125 : decode cX0_refusalOf 125 = .ok (.sipush 999, 3) := by decide +kernel
theorem dX0_refusalOf_128 : decode cX0_refusalOf 128 = .ok (.invokestatic 91, 3) := by decide +kernel
theorem dX0_refusalOf_131 : decode cX0_refusalOf 131 = .ok (.ifCond .eq 7, 3) := by decide +kernel
theorem dX0_refusalOf_134 : decode cX0_refusalOf 134 = .ok (.iconst 1, 1) := by decide +kernel
theorem dX0_refusalOf_135 : decode cX0_refusalOf 135 = .ok (.goto 4, 3) := by decide +kernel
theorem dX0_refusalOf_138 : decode cX0_refusalOf 138 = .ok (.iconst 0, 1) := by decide +kernel
theorem dX0_refusalOf_139 : decode cX0_refusalOf 139 = .ok (.aload_n 0, 1) := by decide +kernel
theorem dX0_refusalOf_140 : decode cX0_refusalOf 140 = .ok (.iload_n 2, 1) := by decide +kernel
theorem dX0_refusalOf_141 : decode cX0_refusalOf 141 = .ok (.invokevirtual 104, 3) := by decide +kernel
theorem dX0_refusalOf_144 : decode cX0_refusalOf 144 = .ok (.ifCond .eq 20, 3) := by decide +kernel
theorem dX0_refusalOf_147 : decode cX0_refusalOf 147 = .ok (.aload_n 0, 1) := by decide +kernel
theorem dX0_refusalOf_148 : decode cX0_refusalOf 148 = .ok (.getfield 11, 3) := by decide +kernel
theorem dX0_refusalOf_151 : decode cX0_refusalOf 151 = .ok (.iload_n 2, 1) := by decide +kernel
theorem dX0_refusalOf_152 : decode cX0_refusalOf 152 = .ok (.aaload, 1) := by decide +kernel
theorem dX0_refusalOf_153 : decode cX0_refusalOf 153 = .ok (.getfield 110, 3) := by decide +kernel
theorem dX0_refusalOf_156 : decode cX0_refusalOf 156 = .ok (.iconst 3, 1) := by decide +kernel
theorem dX0_refusalOf_157 : decode cX0_refusalOf 157 = .ok (.if_icmp .ge 7, 3) := by decide +kernel
theorem dX0_refusalOf_160 : decode cX0_refusalOf 160 = .ok (.iconst 1, 1) := by decide +kernel
theorem dX0_refusalOf_161 : decode cX0_refusalOf 161 = .ok (.goto 4, 3) := by decide +kernel
theorem dX0_refusalOf_164 : decode cX0_refusalOf 164 = .ok (.iconst 0, 1) := by decide +kernel
theorem dX0_refusalOf_165 : decode cX0_refusalOf 165 = .ok (.invokestatic 100, 3) := by decide +kernel
theorem dX0_refusalOf_168 : decode cX0_refusalOf 168 = .ok (.areturn, 1) := by decide +kernel
theorem dX0_refusalOf_169 : decode cX0_refusalOf 169 = .ok (.aload_n 0, 1) := by decide +kernel
theorem dX0_refusalOf_170 : decode cX0_refusalOf 170 = .ok (.iload_n 2, 1) := by decide +kernel
theorem dX0_refusalOf_171 : decode cX0_refusalOf 171 = .ok (.invokevirtual 104, 3) := by decide +kernel
theorem dX0_refusalOf_174 : decode cX0_refusalOf 174 = .ok (.ifCond .eq 26, 3) := by decide +kernel
theorem dX0_refusalOf_177 : decode cX0_refusalOf 177 = .ok (.iload_n 3, 1) := by decide +kernel
theorem dX0_refusalOf_178 : decode cX0_refusalOf 178 = .ok (.iconst 0, 1) := by decide +kernel
theorem dX0_refusalOf_179 : decode cX0_refusalOf 179 = .ok (.aload_n 0, 1) := by decide +kernel
theorem dX0_refusalOf_180 : decode cX0_refusalOf 180 = .ok (.getfield 11, 3) := by decide +kernel
theorem dX0_refusalOf_183 : decode cX0_refusalOf 183 = .ok (.iload_n 2, 1) := by decide +kernel
theorem dX0_refusalOf_184 : decode cX0_refusalOf 184 = .ok (.aaload, 1) := by decide +kernel
theorem dX0_refusalOf_185 : decode cX0_refusalOf 185 = .ok (.getfield 110, 3) := by decide +kernel
theorem dX0_refusalOf_188 : decode cX0_refusalOf 188 = .ok (.iconst 1, 1) := by decide +kernel
theorem dX0_refusalOf_189 : decode cX0_refusalOf 189 = .ok (.isub, 1) := by decide +kernel
theorem dX0_refusalOf_190 : decode cX0_refusalOf 190 = .ok (.invokestatic 91, 3) := by decide +kernel
theorem dX0_refusalOf_193 : decode cX0_refusalOf 193 = .ok (.ifCond .eq 7, 3) := by decide +kernel
theorem dX0_refusalOf_196 : decode cX0_refusalOf 196 = .ok (.iconst 1, 1) := by decide +kernel
theorem dX0_refusalOf_197 : decode cX0_refusalOf 197 = .ok (.goto 4, 3) := by decide +kernel
theorem dX0_refusalOf_200 : decode cX0_refusalOf 200 = .ok (.iconst 0, 1) := by decide +kernel
theorem dX0_refusalOf_201 : decode cX0_refusalOf 201 = .ok (.iconst 1, 1) := by decide +kernel
theorem dX0_refusalOf_202 : decode cX0_refusalOf 202 = .ok (.iconst 1, 1) := by decide +kernel
theorem dX0_refusalOf_203 : decode cX0_refusalOf 203 = .ok (.invokestatic 100, 3) := by decide +kernel
theorem dX0_refusalOf_206 : decode cX0_refusalOf 206 = .ok (.areturn, 1) := by decide +kernel
theorem dX0_refusalOf_207 : decode cX0_refusalOf 207 = .ok (.iload_n 2, 1) := by decide +kernel
theorem dX0_refusalOf_208 : decode cX0_refusalOf 208 = .ok (.invokestatic 95, 3) := by decide +kernel
theorem dX0_refusalOf_211 : decode cX0_refusalOf 211 = .ok (.ifCond .eq 14, 3) := by decide +kernel
theorem dX0_refusalOf_214 : decode cX0_refusalOf 214 = .ok (.iload_n 3, 1) := by decide +kernel
theorem dX0_refusalOf_215 : decode cX0_refusalOf 215 = .ok (.invokestatic 107, 3) := by decide +kernel
theorem dX0_refusalOf_218 : decode cX0_refusalOf 218 = .ok (.ifCond .eq 7, 3) := by decide +kernel
theorem dX0_refusalOf_221 : decode cX0_refusalOf 221 = .ok (.iconst 1, 1) := by decide +kernel
theorem dX0_refusalOf_222 : decode cX0_refusalOf 222 = .ok (.goto 4, 3) := by decide +kernel
theorem dX0_refusalOf_225 : decode cX0_refusalOf 225 = .ok (.iconst 0, 1) := by decide +kernel
theorem dX0_refusalOf_226 : decode cX0_refusalOf 226 = .ok (.iconst 1, 1) := by decide +kernel
theorem dX0_refusalOf_227 : decode cX0_refusalOf 227 = .ok (.iconst 1, 1) := by decide +kernel
theorem dX0_refusalOf_228 : decode cX0_refusalOf 228 = .ok (.invokestatic 100, 3) := by decide +kernel
theorem dX0_refusalOf_231 : decode cX0_refusalOf 231 = .ok (.areturn, 1) := by decide +kernel
theorem dX0_refusalOf_232 : decode cX0_refusalOf 232 = .ok (.iload_n 2, 1) := by decide +kernel
theorem dX0_refusalOf_233 : decode cX0_refusalOf 233 = .ok (.invokestatic 95, 3) := by decide +kernel
theorem dX0_refusalOf_236 : decode cX0_refusalOf 236 = .ok (.ifCond .eq 14, 3) := by decide +kernel
theorem dX0_refusalOf_239 : decode cX0_refusalOf 239 = .ok (.iload_n 3, 1) := by decide +kernel
theorem dX0_refusalOf_240 : decode cX0_refusalOf 240 = .ok (.invokestatic 95, 3) := by decide +kernel
theorem dX0_refusalOf_243 : decode cX0_refusalOf 243 = .ok (.ifCond .eq 7, 3) := by decide +kernel
theorem dX0_refusalOf_246 : decode cX0_refusalOf 246 = .ok (.iconst 1, 1) := by decide +kernel
theorem dX0_refusalOf_247 : decode cX0_refusalOf 247 = .ok (.goto 4, 3) := by decide +kernel
theorem dX0_refusalOf_250 : decode cX0_refusalOf 250 = .ok (.iconst 0, 1) := by decide +kernel
theorem dX0_refusalOf_251 : decode cX0_refusalOf 251 = .ok (.iconst 1, 1) := by decide +kernel
theorem dX0_refusalOf_252 : decode cX0_refusalOf 252 = .ok (.iconst 1, 1) := by decide +kernel
theorem dX0_refusalOf_253 : decode cX0_refusalOf 253 = .ok (.invokestatic 100, 3) := by decide +kernel
theorem dX0_refusalOf_256 : decode cX0_refusalOf 256 = .ok (.areturn, 1) := by decide +kernel
theorem dX0_refusalOf_257 : decode cX0_refusalOf 257 = .ok (.iconst 1, 1) := by decide +kernel
theorem dX0_refusalOf_258 : decode cX0_refusalOf 258 = .ok (.iload_n 2, 1) := by decide +kernel
theorem dX0_refusalOf_259 : decode cX0_refusalOf 259 = .ok (.invokestatic 113, 3) := by decide +kernel
theorem dX0_refusalOf_262 : decode cX0_refusalOf 262 = .ok (.ifCond .eq 24, 3) := by decide +kernel
theorem dX0_refusalOf_265 : decode cX0_refusalOf 265 = .ok (.iload_n 3, 1) := by decide +kernel
theorem dX0_refusalOf_266 : decode cX0_refusalOf 266 = .ok (.getstatic 116, 3) := by decide +kernel
theorem dX0_refusalOf_269 : decode cX0_refusalOf 269 = .ok (.iload_n 2, 1) := by decide +kernel
theorem dX0_refusalOf_270 : decode cX0_refusalOf 270 = .ok (.iaload, 1) := by decide +kernel
theorem dX0_refusalOf_271 : decode cX0_refusalOf 271 = .ok (.getstatic 119, 3) := by decide +kernel
theorem dX0_refusalOf_274 : decode cX0_refusalOf 274 = .ok (.iload_n 2, 1) := by decide +kernel
theorem dX0_refusalOf_275 : decode cX0_refusalOf 275 = .ok (.iaload, 1) := by decide +kernel
theorem dX0_refusalOf_276 : decode cX0_refusalOf 276 = .ok (.invokestatic 91, 3) := by decide +kernel
theorem dX0_refusalOf_279 : decode cX0_refusalOf 279 = .ok (.ifCond .eq 7, 3) := by decide +kernel
theorem dX0_refusalOf_282 : decode cX0_refusalOf 282 = .ok (.iconst 1, 1) := by decide +kernel
theorem dX0_refusalOf_283 : decode cX0_refusalOf 283 = .ok (.goto 4, 3) := by decide +kernel
theorem dX0_refusalOf_286 : decode cX0_refusalOf 286 = .ok (.iconst 0, 1) := by decide +kernel
theorem dX0_refusalOf_287 : decode cX0_refusalOf 287 = .ok (.iconst 1, 1) := by decide +kernel
theorem dX0_refusalOf_288 : decode cX0_refusalOf 288 = .ok (.invokestatic 100, 3) := by decide +kernel
theorem dX0_refusalOf_291 : decode cX0_refusalOf 291 = .ok (.areturn, 1) := by decide +kernel
theorem dX0_refusalOf_292 : decode cX0_refusalOf 292 = .ok (.iconst 1, 1) := by decide +kernel
theorem dX0_refusalOf_293 : decode cX0_refusalOf 293 = .ok (.iload_n 2, 1) := by decide +kernel
theorem dX0_refusalOf_294 : decode cX0_refusalOf 294 = .ok (.iconst 1, 1) := by decide +kernel
theorem dX0_refusalOf_295 : decode cX0_refusalOf 295 = .ok (.bipush 60, 2) := by decide +kernel
theorem dX0_refusalOf_297 : decode cX0_refusalOf 297 = .ok (.invokestatic 91, 3) := by decide +kernel
theorem dX0_refusalOf_300 : decode cX0_refusalOf 300 = .ok (.iconst 1, 1) := by decide +kernel
theorem dX0_refusalOf_301 : decode cX0_refusalOf 301 = .ok (.invokestatic 100, 3) := by decide +kernel
theorem dX0_refusalOf_304 : decode cX0_refusalOf 304 = .ok (.areturn, 1) := by decide +kernel
theorem dX0_firstRefusal_0 : decode cX0_firstRefusal 0 = .ok (.iload_n 0, 1) := by decide +kernel
theorem dX0_firstRefusal_1 : decode cX0_firstRefusal 1 = .ok (.ifCond .ne 7, 3) := by decide +kernel
theorem dX0_firstRefusal_4 : decode cX0_firstRefusal 4 = .ok (.getstatic 122, 3) := by decide +kernel
theorem dX0_firstRefusal_7 : decode cX0_firstRefusal 7 = .ok (.areturn, 1) := by decide +kernel
theorem dX0_firstRefusal_8 : decode cX0_firstRefusal 8 = .ok (.iload_n 1, 1) := by decide +kernel
theorem dX0_firstRefusal_9 : decode cX0_firstRefusal 9 = .ok (.ifCond .ne 7, 3) := by decide +kernel
theorem dX0_firstRefusal_12 : decode cX0_firstRefusal 12 = .ok (.getstatic 128, 3) := by decide +kernel
theorem dX0_firstRefusal_15 : decode cX0_firstRefusal 15 = .ok (.areturn, 1) := by decide +kernel
theorem dX0_firstRefusal_16 : decode cX0_firstRefusal 16 = .ok (.iload_n 2, 1) := by decide +kernel
theorem dX0_firstRefusal_17 : decode cX0_firstRefusal 17 = .ok (.ifCond .eq 9, 3) := by decide +kernel
theorem dX0_firstRefusal_20 : decode cX0_firstRefusal 20 = .ok (.getstatic 131, 3) := by decide +kernel
theorem dX0_firstRefusal_23 : decode cX0_firstRefusal 23 = .ok (.goto 6, 3) := by decide +kernel
theorem dX0_firstRefusal_26 : decode cX0_firstRefusal 26 = .ok (.getstatic 134, 3) := by decide +kernel
theorem dX0_firstRefusal_29 : decode cX0_firstRefusal 29 = .ok (.areturn, 1) := by decide +kernel
theorem dX0_perform_0 : decode cX0_perform 0 = .ok (.aload_n 0, 1) := by decide +kernel
theorem dX0_perform_1 : decode cX0_perform 1 = .ok (.iload_n 1, 1) := by decide +kernel
theorem dX0_perform_2 : decode cX0_perform 2 = .ok (.iload_n 2, 1) := by decide +kernel
theorem dX0_perform_3 : decode cX0_perform 3 = .ok (.iload_n 3, 1) := by decide +kernel
theorem dX0_perform_4 : decode cX0_perform 4 = .ok (.iload 4, 2) := by decide +kernel
theorem dX0_perform_6 : decode cX0_perform 6 = .ok (.invokevirtual 137, 3) := by decide +kernel
theorem dX0_perform_9 : decode cX0_perform 9 = .ok (.getstatic 131, 3) := by decide +kernel
theorem dX0_perform_12 : decode cX0_perform 12 = .ok (.if_acmp .eq 5, 3) := by decide +kernel
theorem dX0_perform_15 : decode cX0_perform 15 = .ok (.iconst (-1), 1) := by decide +kernel
theorem dX0_perform_16 : decode cX0_perform 16 = .ok (.ireturn, 1) := by decide +kernel
theorem dX0_perform_17 : decode cX0_perform 17 = .ok (.iload_n 1, 1) := by decide +kernel
theorem dX0_perform_18 : decode cX0_perform 18 = .ok (.tableswitch 118 0 6 #[42, 49, 62, 75, 86, 104, 111], 42) := by decide +kernel
theorem dX0_perform_60 : decode cX0_perform 60 = .ok (.aload_n 0, 1) := by decide +kernel
theorem dX0_perform_61 : decode cX0_perform 61 = .ok (.iload_n 2, 1) := by decide +kernel
theorem dX0_perform_62 : decode cX0_perform 62 = .ok (.iload_n 3, 1) := by decide +kernel
theorem dX0_perform_63 : decode cX0_perform 63 = .ok (.invokevirtual 141, 3) := by decide +kernel
theorem dX0_perform_66 : decode cX0_perform 66 = .ok (.ireturn, 1) := by decide +kernel
theorem dX0_perform_67 : decode cX0_perform 67 = .ok (.aload_n 0, 1) := by decide +kernel
theorem dX0_perform_68 : decode cX0_perform 68 = .ok (.getfield 11, 3) := by decide +kernel
theorem dX0_perform_71 : decode cX0_perform 71 = .ok (.iload_n 2, 1) := by decide +kernel
theorem dX0_perform_72 : decode cX0_perform 72 = .ok (.aaload, 1) := by decide +kernel
theorem dX0_perform_73 : decode cX0_perform 73 = .ok (.iload_n 3, 1) := by decide +kernel
theorem dX0_perform_74 : decode cX0_perform 74 = .ok (.iload 4, 2) := by decide +kernel
theorem dX0_perform_76 : decode cX0_perform 76 = .ok (.invokevirtual 145, 3) := by decide +kernel
theorem dX0_perform_79 : decode cX0_perform 79 = .ok (.ireturn, 1) := by decide +kernel
theorem dX0_perform_80 : decode cX0_perform 80 = .ok (.aload_n 0, 1) := by decide +kernel
theorem dX0_perform_81 : decode cX0_perform 81 = .ok (.getfield 11, 3) := by decide +kernel
theorem dX0_perform_84 : decode cX0_perform 84 = .ok (.iload_n 2, 1) := by decide +kernel
theorem dX0_perform_85 : decode cX0_perform 85 = .ok (.aaload, 1) := by decide +kernel
theorem dX0_perform_86 : decode cX0_perform 86 = .ok (.iload_n 3, 1) := by decide +kernel
theorem dX0_perform_87 : decode cX0_perform 87 = .ok (.iload 4, 2) := by decide +kernel
theorem dX0_perform_89 : decode cX0_perform 89 = .ok (.invokevirtual 148, 3) := by decide +kernel
theorem dX0_perform_92 : decode cX0_perform 92 = .ok (.ireturn, 1) := by decide +kernel
theorem dX0_perform_93 : decode cX0_perform 93 = .ok (.aload_n 0, 1) := by decide +kernel
theorem dX0_perform_94 : decode cX0_perform 94 = .ok (.getfield 11, 3) := by decide +kernel
theorem dX0_perform_97 : decode cX0_perform 97 = .ok (.iload_n 2, 1) := by decide +kernel
theorem dX0_perform_98 : decode cX0_perform 98 = .ok (.aaload, 1) := by decide +kernel
theorem dX0_perform_99 : decode cX0_perform 99 = .ok (.iload_n 3, 1) := by decide +kernel
theorem dX0_perform_100 : decode cX0_perform 100 = .ok (.invokevirtual 151, 3) := by decide +kernel
theorem dX0_perform_103 : decode cX0_perform 103 = .ok (.ireturn, 1) := by decide +kernel
theorem dX0_perform_104 : decode cX0_perform 104 = .ok (.aload_n 0, 1) := by decide +kernel
theorem dX0_perform_105 : decode cX0_perform 105 = .ok (.iload_n 2, 1) := by decide +kernel
theorem dX0_perform_106 : decode cX0_perform 106 = .ok (.iload_n 3, 1) := by decide +kernel
theorem dX0_perform_107 : decode cX0_perform 107 = .ok (.iload 4, 2) := by decide +kernel
theorem dX0_perform_109 : decode cX0_perform 109 = .ok (.iconst 1, 1) := by decide +kernel
theorem dX0_perform_110 : decode cX0_perform 110 = .ok (.if_icmp .ne 7, 3) := by decide +kernel
theorem dX0_perform_113 : decode cX0_perform 113 = .ok (.iconst 1, 1) := by decide +kernel
theorem dX0_perform_114 : decode cX0_perform 114 = .ok (.goto 4, 3) := by decide +kernel
theorem dX0_perform_117 : decode cX0_perform 117 = .ok (.iconst 0, 1) := by decide +kernel
theorem dX0_perform_118 : decode cX0_perform 118 = .ok (.invokevirtual 154, 3) := by decide +kernel
theorem dX0_perform_121 : decode cX0_perform 121 = .ok (.ireturn, 1) := by decide +kernel
theorem dX0_perform_122 : decode cX0_perform 122 = .ok (.aload_n 0, 1) := by decide +kernel
theorem dX0_perform_123 : decode cX0_perform 123 = .ok (.iload_n 2, 1) := by decide +kernel
theorem dX0_perform_124 : decode cX0_perform 124 = .ok (.iload_n 3, 1) := by decide +kernel
theorem dX0_perform_125 : decode cX0_perform 125 = .ok (.invokevirtual 158, 3) := by decide +kernel
theorem dX0_perform_128 : decode cX0_perform 128 = .ok (.ireturn, 1) := by decide +kernel
theorem dX0_perform_129 : decode cX0_perform 129 = .ok (.aload_n 0, 1) := by decide +kernel
theorem dX0_perform_130 : decode cX0_perform 130 = .ok (.iload_n 2, 1) := by decide +kernel
theorem dX0_perform_131 : decode cX0_perform 131 = .ok (.iload_n 3, 1) := by decide +kernel
theorem dX0_perform_132 : decode cX0_perform 132 = .ok (.invokevirtual 161, 3) := by decide +kernel
theorem dX0_perform_135 : decode cX0_perform 135 = .ok (.ireturn, 1) := by decide +kernel
theorem dX0_perform_136 : decode cX0_perform 136 = .ok (.aload_n 0, 1) := by decide +kernel
theorem dX0_perform_137 : decode cX0_perform 137 = .ok (.iload_n 2, 1) := by decide +kernel
theorem dX0_perform_138 : decode cX0_perform 138 = .ok (.invokevirtual 164, 3) := by decide +kernel
theorem dX0_perform_141 : decode cX0_perform 141 = .ok (.ireturn, 1) := by decide +kernel
theorem dX0_addCustomer_0 : decode cX0_addCustomer 0 = .ok (.aload_n 0, 1) := by decide +kernel
theorem dX0_addCustomer_1 : decode cX0_addCustomer 1 = .ok (.getfield 11, 3) := by decide +kernel
theorem dX0_addCustomer_4 : decode cX0_addCustomer 4 = .ok (.aload_n 0, 1) := by decide +kernel
theorem dX0_addCustomer_5 : decode cX0_addCustomer 5 = .ok (.getfield 35, 3) := by decide +kernel
theorem dX0_addCustomer_8 : decode cX0_addCustomer 8 = .ok (.aaload, 1) := by decide +kernel
theorem dX0_addCustomer_9 : decode cX0_addCustomer 9 = .ok (.iload_n 1, 1) := by decide +kernel
theorem dX0_addCustomer_10 : decode cX0_addCustomer 10 = .ok (.iload_n 2, 1) := by decide +kernel
theorem dX0_addCustomer_11 : decode cX0_addCustomer 11 = .ok (.invokevirtual 167, 3) := by decide +kernel
theorem dX0_addCustomer_14 : decode cX0_addCustomer 14 = .ok (.aload_n 0, 1) := by decide +kernel
theorem dX0_addCustomer_15 : decode cX0_addCustomer 15 = .ok (.dup, 1) := by decide +kernel
theorem dX0_addCustomer_16 : decode cX0_addCustomer 16 = .ok (.getfield 35, 3) := by decide +kernel
theorem dX0_addCustomer_19 : decode cX0_addCustomer 19 = .ok (.iconst 1, 1) := by decide +kernel
theorem dX0_addCustomer_20 : decode cX0_addCustomer 20 = .ok (.iadd, 1) := by decide +kernel
theorem dX0_addCustomer_21 : decode cX0_addCustomer 21 = .ok (.putfield 35, 3) := by decide +kernel
theorem dX0_addCustomer_24 : decode cX0_addCustomer 24 = .ok (.aload_n 0, 1) := by decide +kernel
theorem dX0_addCustomer_25 : decode cX0_addCustomer 25 = .ok (.getfield 35, 3) := by decide +kernel
theorem dX0_addCustomer_28 : decode cX0_addCustomer 28 = .ok (.iconst 1, 1) := by decide +kernel
theorem dX0_addCustomer_29 : decode cX0_addCustomer 29 = .ok (.isub, 1) := by decide +kernel
theorem dX0_addCustomer_30 : decode cX0_addCustomer 30 = .ok (.ireturn, 1) := by decide +kernel
theorem dX0_closeStreet_0 : decode cX0_closeStreet 0 = .ok (.aload_n 0, 1) := by decide +kernel
theorem dX0_closeStreet_1 : decode cX0_closeStreet 1 = .ok (.getfield 17, 3) := by decide +kernel
theorem dX0_closeStreet_4 : decode cX0_closeStreet 4 = .ok (.iload_n 1, 1) := by decide +kernel
theorem dX0_closeStreet_5 : decode cX0_closeStreet 5 = .ok (.bipush 7, 2) := by decide +kernel
theorem dX0_closeStreet_7 : decode cX0_closeStreet 7 = .ok (.imul, 1) := by decide +kernel
theorem dX0_closeStreet_8 : decode cX0_closeStreet 8 = .ok (.iload_n 2, 1) := by decide +kernel
theorem dX0_closeStreet_9 : decode cX0_closeStreet 9 = .ok (.iadd, 1) := by decide +kernel
theorem dX0_closeStreet_10 : decode cX0_closeStreet 10 = .ok (.iload_n 3, 1) := by decide +kernel
theorem dX0_closeStreet_11 : decode cX0_closeStreet 11 = .ok (.bastore, 1) := by decide +kernel
theorem dX0_closeStreet_12 : decode cX0_closeStreet 12 = .ok (.iconst 0, 1) := by decide +kernel
theorem dX0_closeStreet_13 : decode cX0_closeStreet 13 = .ok (.istore 4, 2) := by decide +kernel
theorem dX0_closeStreet_15 : decode cX0_closeStreet 15 = .ok (.iconst 0, 1) := by decide +kernel
theorem dX0_closeStreet_16 : decode cX0_closeStreet 16 = .ok (.istore 5, 2) := by decide +kernel
theorem dX0_closeStreet_18 : decode cX0_closeStreet 18 = .ok (.iload 5, 2) := by decide +kernel
theorem dX0_closeStreet_20 : decode cX0_closeStreet 20 = .ok (.bipush 7, 2) := by decide +kernel
theorem dX0_closeStreet_22 : decode cX0_closeStreet 22 = .ok (.if_icmp .ge 22, 3) := by decide +kernel
theorem dX0_closeStreet_25 : decode cX0_closeStreet 25 = .ok (.aload_n 0, 1) := by decide +kernel
theorem dX0_closeStreet_26 : decode cX0_closeStreet 26 = .ok (.iload_n 1, 1) := by decide +kernel
theorem dX0_closeStreet_27 : decode cX0_closeStreet 27 = .ok (.iload 5, 2) := by decide +kernel
theorem dX0_closeStreet_29 : decode cX0_closeStreet 29 = .ok (.invokevirtual 87, 3) := by decide +kernel
theorem dX0_closeStreet_32 : decode cX0_closeStreet 32 = .ok (.ifCond .eq 6, 3) := by decide +kernel
theorem dX0_closeStreet_35 : decode cX0_closeStreet 35 = .ok (.iinc 4 1, 3) := by decide +kernel
theorem dX0_closeStreet_38 : decode cX0_closeStreet 38 = .ok (.iinc 5 1, 3) := by decide +kernel
theorem dX0_closeStreet_41 : decode cX0_closeStreet 41 = .ok (.goto (-23), 3) := by decide +kernel
theorem dX0_closeStreet_44 : decode cX0_closeStreet 44 = .ok (.iload 4, 2) := by decide +kernel
theorem dX0_closeStreet_46 : decode cX0_closeStreet 46 = .ok (.ireturn, 1) := by decide +kernel
theorem dX0_swapStreets_0 : decode cX0_swapStreets 0 = .ok (.aload_n 0, 1) := by decide +kernel
theorem dX0_swapStreets_1 : decode cX0_swapStreets 1 = .ok (.iload_n 1, 1) := by decide +kernel
theorem dX0_swapStreets_2 : decode cX0_swapStreets 2 = .ok (.invokevirtual 171, 3) := by decide +kernel
theorem dX0_swapStreets_5 : decode cX0_swapStreets 5 = .ok (.istore_n 3, 1) := by decide +kernel
theorem dX0_swapStreets_6 : decode cX0_swapStreets 6 = .ok (.aload_n 0, 1) := by decide +kernel
theorem dX0_swapStreets_7 : decode cX0_swapStreets 7 = .ok (.iload_n 2, 1) := by decide +kernel
theorem dX0_swapStreets_8 : decode cX0_swapStreets 8 = .ok (.invokevirtual 171, 3) := by decide +kernel
theorem dX0_swapStreets_11 : decode cX0_swapStreets 11 = .ok (.istore 4, 2) := by decide +kernel
theorem dX0_swapStreets_13 : decode cX0_swapStreets 13 = .ok (.aload_n 0, 1) := by decide +kernel
theorem dX0_swapStreets_14 : decode cX0_swapStreets 14 = .ok (.getfield 21, 3) := by decide +kernel
theorem dX0_swapStreets_17 : decode cX0_swapStreets 17 = .ok (.iload_n 3, 1) := by decide +kernel
theorem dX0_swapStreets_18 : decode cX0_swapStreets 18 = .ok (.iload_n 2, 1) := by decide +kernel
theorem dX0_swapStreets_19 : decode cX0_swapStreets 19 = .ok (.iastore, 1) := by decide +kernel
theorem dX0_swapStreets_20 : decode cX0_swapStreets 20 = .ok (.aload_n 0, 1) := by decide +kernel
theorem dX0_swapStreets_21 : decode cX0_swapStreets 21 = .ok (.getfield 21, 3) := by decide +kernel
theorem dX0_swapStreets_24 : decode cX0_swapStreets 24 = .ok (.iload 4, 2) := by decide +kernel
theorem dX0_swapStreets_26 : decode cX0_swapStreets 26 = .ok (.iload_n 1, 1) := by decide +kernel
theorem dX0_swapStreets_27 : decode cX0_swapStreets 27 = .ok (.iastore, 1) := by decide +kernel
theorem dX0_swapStreets_28 : decode cX0_swapStreets 28 = .ok (.iload 4, 2) := by decide +kernel
theorem dX0_swapStreets_30 : decode cX0_swapStreets 30 = .ok (.ireturn, 1) := by decide +kernel
theorem dX0_placeOf_0 : decode cX0_placeOf 0 = .ok (.iconst 0, 1) := by decide +kernel
theorem dX0_placeOf_1 : decode cX0_placeOf 1 = .ok (.istore_n 2, 1) := by decide +kernel
theorem dX0_placeOf_2 : decode cX0_placeOf 2 = .ok (.iconst 0, 1) := by decide +kernel
theorem dX0_placeOf_3 : decode cX0_placeOf 3 = .ok (.istore_n 3, 1) := by decide +kernel
theorem dX0_placeOf_4 : decode cX0_placeOf 4 = .ok (.iload_n 3, 1) := by decide +kernel
theorem dX0_placeOf_5 : decode cX0_placeOf 5 = .ok (.iconst 4, 1) := by decide +kernel
theorem dX0_placeOf_6 : decode cX0_placeOf 6 = .ok (.if_icmp .ge 21, 3) := by decide +kernel
theorem dX0_placeOf_9 : decode cX0_placeOf 9 = .ok (.aload_n 0, 1) := by decide +kernel
theorem dX0_placeOf_10 : decode cX0_placeOf 10 = .ok (.getfield 21, 3) := by decide +kernel
theorem dX0_placeOf_13 : decode cX0_placeOf 13 = .ok (.iload_n 3, 1) := by decide +kernel
theorem dX0_placeOf_14 : decode cX0_placeOf 14 = .ok (.iaload, 1) := by decide +kernel
theorem dX0_placeOf_15 : decode cX0_placeOf 15 = .ok (.iload_n 1, 1) := by decide +kernel
theorem dX0_placeOf_16 : decode cX0_placeOf 16 = .ok (.if_icmp .ne 5, 3) := by decide +kernel
theorem dX0_placeOf_19 : decode cX0_placeOf 19 = .ok (.iload_n 3, 1) := by decide +kernel
theorem dX0_placeOf_20 : decode cX0_placeOf 20 = .ok (.istore_n 2, 1) := by decide +kernel
theorem dX0_placeOf_21 : decode cX0_placeOf 21 = .ok (.iinc 3 1, 3) := by decide +kernel
theorem dX0_placeOf_24 : decode cX0_placeOf 24 = .ok (.goto (-20), 3) := by decide +kernel
theorem dX0_placeOf_27 : decode cX0_placeOf 27 = .ok (.iload_n 2, 1) := by decide +kernel
theorem dX0_placeOf_28 : decode cX0_placeOf 28 = .ok (.ireturn, 1) := by decide +kernel
theorem dX0_takeOrder_0 : decode cX0_takeOrder 0 = .ok (.iload_n 1, 1) := by decide +kernel
theorem dX0_takeOrder_1 : decode cX0_takeOrder 1 = .ok (.istore_n 2, 1) := by decide +kernel
theorem dX0_takeOrder_2 : decode cX0_takeOrder 2 = .ok (.iconst 3, 1) := by decide +kernel
theorem dX0_takeOrder_3 : decode cX0_takeOrder 3 = .ok (.istore_n 3, 1) := by decide +kernel
theorem dX0_takeOrder_4 : decode cX0_takeOrder 4 = .ok (.iload_n 3, 1) := by decide +kernel
theorem dX0_takeOrder_5 : decode cX0_takeOrder 5 = .ok (.ifCond .lt 22, 3) := by decide +kernel
theorem dX0_takeOrder_8 : decode cX0_takeOrder 8 = .ok (.aload_n 0, 1) := by decide +kernel
theorem dX0_takeOrder_9 : decode cX0_takeOrder 9 = .ok (.getfield 21, 3) := by decide +kernel
theorem dX0_takeOrder_12 : decode cX0_takeOrder 12 = .ok (.iload_n 3, 1) := by decide +kernel
theorem dX0_takeOrder_13 : decode cX0_takeOrder 13 = .ok (.iload_n 2, 1) := by decide +kernel
theorem dX0_takeOrder_14 : decode cX0_takeOrder 14 = .ok (.iconst 4, 1) := by decide +kernel
theorem dX0_takeOrder_15 : decode cX0_takeOrder 15 = .ok (.irem, 1) := by decide +kernel
theorem dX0_takeOrder_16 : decode cX0_takeOrder 16 = .ok (.iastore, 1) := by decide +kernel
theorem dX0_takeOrder_17 : decode cX0_takeOrder 17 = .ok (.iload_n 2, 1) := by decide +kernel
theorem dX0_takeOrder_18 : decode cX0_takeOrder 18 = .ok (.iconst 4, 1) := by decide +kernel
theorem dX0_takeOrder_19 : decode cX0_takeOrder 19 = .ok (.idiv, 1) := by decide +kernel
theorem dX0_takeOrder_20 : decode cX0_takeOrder 20 = .ok (.istore_n 2, 1) := by decide +kernel
theorem dX0_takeOrder_21 : decode cX0_takeOrder 21 = .ok (.iinc 3 (-1), 3) := by decide +kernel
theorem dX0_takeOrder_24 : decode cX0_takeOrder 24 = .ok (.goto (-20), 3) := by decide +kernel
theorem dX0_takeOrder_27 : decode cX0_takeOrder 27 = .ok (.return_, 1) := by decide +kernel
theorem dX0_orderAsNumber_0 : decode cX0_orderAsNumber 0 = .ok (.iconst 0, 1) := by decide +kernel
theorem dX0_orderAsNumber_1 : decode cX0_orderAsNumber 1 = .ok (.istore_n 1, 1) := by decide +kernel
theorem dX0_orderAsNumber_2 : decode cX0_orderAsNumber 2 = .ok (.iconst 0, 1) := by decide +kernel
theorem dX0_orderAsNumber_3 : decode cX0_orderAsNumber 3 = .ok (.istore_n 2, 1) := by decide +kernel
theorem dX0_orderAsNumber_4 : decode cX0_orderAsNumber 4 = .ok (.iload_n 2, 1) := by decide +kernel
theorem dX0_orderAsNumber_5 : decode cX0_orderAsNumber 5 = .ok (.iconst 4, 1) := by decide +kernel
theorem dX0_orderAsNumber_6 : decode cX0_orderAsNumber 6 = .ok (.if_icmp .ge 21, 3) := by decide +kernel
theorem dX0_orderAsNumber_9 : decode cX0_orderAsNumber 9 = .ok (.iload_n 1, 1) := by decide +kernel
theorem dX0_orderAsNumber_10 : decode cX0_orderAsNumber 10 = .ok (.bipush 10, 2) := by decide +kernel
theorem dX0_orderAsNumber_12 : decode cX0_orderAsNumber 12 = .ok (.imul, 1) := by decide +kernel
theorem dX0_orderAsNumber_13 : decode cX0_orderAsNumber 13 = .ok (.aload_n 0, 1) := by decide +kernel
theorem dX0_orderAsNumber_14 : decode cX0_orderAsNumber 14 = .ok (.getfield 21, 3) := by decide +kernel
theorem dX0_orderAsNumber_17 : decode cX0_orderAsNumber 17 = .ok (.iload_n 2, 1) := by decide +kernel
theorem dX0_orderAsNumber_18 : decode cX0_orderAsNumber 18 = .ok (.iaload, 1) := by decide +kernel
theorem dX0_orderAsNumber_19 : decode cX0_orderAsNumber 19 = .ok (.iadd, 1) := by decide +kernel
theorem dX0_orderAsNumber_20 : decode cX0_orderAsNumber 20 = .ok (.istore_n 1, 1) := by decide +kernel
theorem dX0_orderAsNumber_21 : decode cX0_orderAsNumber 21 = .ok (.iinc 2 1, 3) := by decide +kernel
theorem dX0_orderAsNumber_24 : decode cX0_orderAsNumber 24 = .ok (.goto (-20), 3) := by decide +kernel
theorem dX0_orderAsNumber_27 : decode cX0_orderAsNumber 27 = .ok (.iload_n 1, 1) := by decide +kernel
theorem dX0_orderAsNumber_28 : decode cX0_orderAsNumber 28 = .ok (.ireturn, 1) := by decide +kernel
theorem dX0_changeSetting_0 : decode cX0_changeSetting 0 = .ok (.aload_n 0, 1) := by decide +kernel
theorem dX0_changeSetting_1 : decode cX0_changeSetting 1 = .ok (.getfield 25, 3) := by decide +kernel
theorem dX0_changeSetting_4 : decode cX0_changeSetting 4 = .ok (.iload_n 1, 1) := by decide +kernel
theorem dX0_changeSetting_5 : decode cX0_changeSetting 5 = .ok (.iaload, 1) := by decide +kernel
theorem dX0_changeSetting_6 : decode cX0_changeSetting 6 = .ok (.istore_n 3, 1) := by decide +kernel
theorem dX0_changeSetting_7 : decode cX0_changeSetting 7 = .ok (.aload_n 0, 1) := by decide +kernel
theorem dX0_changeSetting_8 : decode cX0_changeSetting 8 = .ok (.getfield 25, 3) := by decide +kernel
theorem dX0_changeSetting_11 : decode cX0_changeSetting 11 = .ok (.iload_n 1, 1) := by decide +kernel
theorem dX0_changeSetting_12 : decode cX0_changeSetting 12 = .ok (.iload_n 2, 1) := by decide +kernel
theorem dX0_changeSetting_13 : decode cX0_changeSetting 13 = .ok (.iastore, 1) := by decide +kernel
theorem dX0_changeSetting_14 : decode cX0_changeSetting 14 = .ok (.iload_n 3, 1) := by decide +kernel
theorem dX0_changeSetting_15 : decode cX0_changeSetting 15 = .ok (.ireturn, 1) := by decide +kernel
theorem dX0_deliver_0 : decode cX0_deliver 0 = .ok (.iconst 0, 1) := by decide +kernel
theorem dX0_deliver_1 : decode cX0_deliver 1 = .ok (.istore_n 2, 1) := by decide +kernel
theorem dX0_deliver_2 : decode cX0_deliver 2 = .ok (.aload_n 0, 1) := by decide +kernel
theorem dX0_deliver_3 : decode cX0_deliver 3 = .ok (.invokevirtual 174, 3) := by decide +kernel
theorem dX0_deliver_6 : decode cX0_deliver 6 = .ok (.iconst 0, 1) := by decide +kernel
theorem dX0_deliver_7 : decode cX0_deliver 7 = .ok (.istore_n 3, 1) := by decide +kernel
theorem dX0_deliver_8 : decode cX0_deliver 8 = .ok (.iload_n 3, 1) := by decide +kernel
theorem dX0_deliver_9 : decode cX0_deliver 9 = .ok (.iload_n 1, 1) := by decide +kernel
theorem dX0_deliver_10 : decode cX0_deliver 10 = .ok (.if_icmp .ge 75, 3) := by decide +kernel
theorem dX0_deliver_13 : decode cX0_deliver 13 = .ok (.aload_n 0, 1) := by decide +kernel
theorem dX0_deliver_14 : decode cX0_deliver 14 = .ok (.aload_n 0, 1) := by decide +kernel
theorem dX0_deliver_15 : decode cX0_deliver 15 = .ok (.invokevirtual 71, 3) := by decide +kernel
theorem dX0_deliver_18 : decode cX0_deliver 18 = .ok (.invokevirtual 177, 3) := by decide +kernel
theorem dX0_deliver_21 : decode cX0_deliver 21 = .ok (.istore 4, 2) := by decide +kernel
theorem dX0_deliver_23 : decode cX0_deliver 23 = .ok (.aload_n 0, 1) := by decide +kernel
theorem dX0_deliver_24 : decode cX0_deliver 24 = .ok (.aload_n 0, 1) := by decide +kernel
theorem dX0_deliver_25 : decode cX0_deliver 25 = .ok (.iload 4, 2) := by decide +kernel
theorem dX0_deliver_27 : decode cX0_deliver 27 = .ok (.invokevirtual 180, 3) := by decide +kernel
theorem dX0_deliver_30 : decode cX0_deliver 30 = .ok (.invokevirtual 183, 3) := by decide +kernel
theorem dX0_deliver_33 : decode cX0_deliver 33 = .ok (.istore 5, 2) := by decide +kernel
theorem dX0_deliver_35 : decode cX0_deliver 35 = .ok (.aload_n 0, 1) := by decide +kernel
theorem dX0_deliver_36 : decode cX0_deliver 36 = .ok (.dup, 1) := by decide +kernel
theorem dX0_deliver_37 : decode cX0_deliver 37 = .ok (.getfield 42, 3) := by decide +kernel
theorem dX0_deliver_40 : decode cX0_deliver 40 = .ok (.iload 4, 2) := by decide +kernel
theorem dX0_deliver_42 : decode cX0_deliver 42 = .ok (.iadd, 1) := by decide +kernel
theorem dX0_deliver_43 : decode cX0_deliver 43 = .ok (.putfield 42, 3) := by decide +kernel
theorem dX0_deliver_46 : decode cX0_deliver 46 = .ok (.aload_n 0, 1) := by decide +kernel
theorem dX0_deliver_47 : decode cX0_deliver 47 = .ok (.dup, 1) := by decide +kernel
theorem dX0_deliver_48 : decode cX0_deliver 48 = .ok (.getfield 45, 3) := by decide +kernel
theorem dX0_deliver_51 : decode cX0_deliver 51 = .ok (.iload 5, 2) := by decide +kernel
theorem dX0_deliver_53 : decode cX0_deliver 53 = .ok (.iadd, 1) := by decide +kernel
theorem dX0_deliver_54 : decode cX0_deliver 54 = .ok (.putfield 45, 3) := by decide +kernel
theorem dX0_deliver_57 : decode cX0_deliver 57 = .ok (.iload_n 2, 1) := by decide +kernel
theorem dX0_deliver_58 : decode cX0_deliver 58 = .ok (.iload 4, 2) := by decide +kernel
theorem dX0_deliver_60 : decode cX0_deliver 60 = .ok (.iload 5, 2) := by decide +kernel
theorem dX0_deliver_62 : decode cX0_deliver 62 = .ok (.isub, 1) := by decide +kernel
theorem dX0_deliver_63 : decode cX0_deliver 63 = .ok (.iadd, 1) := by decide +kernel
theorem dX0_deliver_64 : decode cX0_deliver 64 = .ok (.istore_n 2, 1) := by decide +kernel
theorem dX0_deliver_65 : decode cX0_deliver 65 = .ok (.aload_n 0, 1) := by decide +kernel
theorem dX0_deliver_66 : decode cX0_deliver 66 = .ok (.invokevirtual 186, 3) := by decide +kernel
theorem dX0_deliver_69 : decode cX0_deliver 69 = .ok (.aload_n 0, 1) := by decide +kernel
theorem dX0_deliver_70 : decode cX0_deliver 70 = .ok (.dup, 1) := by decide +kernel
theorem dX0_deliver_71 : decode cX0_deliver 71 = .ok (.getfield 39, 3) := by decide +kernel
theorem dX0_deliver_74 : decode cX0_deliver 74 = .ok (.iconst 1, 1) := by decide +kernel
theorem dX0_deliver_75 : decode cX0_deliver 75 = .ok (.iadd, 1) := by decide +kernel
theorem dX0_deliver_76 : decode cX0_deliver 76 = .ok (.putfield 39, 3) := by decide +kernel
theorem dX0_deliver_79 : decode cX0_deliver 79 = .ok (.iinc 3 1, 3) := by decide +kernel
theorem dX0_deliver_82 : decode cX0_deliver 82 = .ok (.goto (-74), 3) := by decide +kernel
theorem dX0_deliver_85 : decode cX0_deliver 85 = .ok (.iload_n 2, 1) := by decide +kernel
theorem dX0_deliver_86 : decode cX0_deliver 86 = .ok (.ireturn, 1) := by decide +kernel
theorem dX0_planVisits_0 : decode cX0_planVisits 0 = .ok (.iconst 0, 1) := by decide +kernel
theorem dX0_planVisits_1 : decode cX0_planVisits 1 = .ok (.istore_n 1, 1) := by decide +kernel
theorem dX0_planVisits_2 : decode cX0_planVisits 2 = .ok (.iconst 0, 1) := by decide +kernel
theorem dX0_planVisits_3 : decode cX0_planVisits 3 = .ok (.istore_n 2, 1) := by decide +kernel
theorem dX0_planVisits_4 : decode cX0_planVisits 4 = .ok (.iload_n 2, 1) := by decide +kernel
theorem dX0_planVisits_5 : decode cX0_planVisits 5 = .ok (.iconst 4, 1) := by decide +kernel
theorem dX0_planVisits_6 : decode cX0_planVisits 6 = .ok (.if_icmp .ge 53, 3) := by decide +kernel
theorem dX0_planVisits_9 : decode cX0_planVisits 9 = .ok (.iconst 0, 1) := by decide +kernel
theorem dX0_planVisits_10 : decode cX0_planVisits 10 = .ok (.istore_n 3, 1) := by decide +kernel
theorem dX0_planVisits_11 : decode cX0_planVisits 11 = .ok (.iload_n 3, 1) := by decide +kernel
theorem dX0_planVisits_12 : decode cX0_planVisits 12 = .ok (.aload_n 0, 1) := by decide +kernel
theorem dX0_planVisits_13 : decode cX0_planVisits 13 = .ok (.getfield 35, 3) := by decide +kernel
theorem dX0_planVisits_16 : decode cX0_planVisits 16 = .ok (.if_icmp .ge 37, 3) := by decide +kernel
theorem dX0_planVisits_19 : decode cX0_planVisits 19 = .ok (.aload_n 0, 1) := by decide +kernel
theorem dX0_planVisits_20 : decode cX0_planVisits 20 = .ok (.getfield 11, 3) := by decide +kernel
theorem dX0_planVisits_23 : decode cX0_planVisits 23 = .ok (.iload_n 3, 1) := by decide +kernel
theorem dX0_planVisits_24 : decode cX0_planVisits 24 = .ok (.aaload, 1) := by decide +kernel
theorem dX0_planVisits_25 : decode cX0_planVisits 25 = .ok (.getfield 81, 3) := by decide +kernel
theorem dX0_planVisits_28 : decode cX0_planVisits 28 = .ok (.aload_n 0, 1) := by decide +kernel
theorem dX0_planVisits_29 : decode cX0_planVisits 29 = .ok (.getfield 21, 3) := by decide +kernel
theorem dX0_planVisits_32 : decode cX0_planVisits 32 = .ok (.iload_n 2, 1) := by decide +kernel
theorem dX0_planVisits_33 : decode cX0_planVisits 33 = .ok (.iaload, 1) := by decide +kernel
theorem dX0_planVisits_34 : decode cX0_planVisits 34 = .ok (.if_icmp .ne 13, 3) := by decide +kernel
theorem dX0_planVisits_37 : decode cX0_planVisits 37 = .ok (.aload_n 0, 1) := by decide +kernel
theorem dX0_planVisits_38 : decode cX0_planVisits 38 = .ok (.getfield 28, 3) := by decide +kernel
theorem dX0_planVisits_41 : decode cX0_planVisits 41 = .ok (.iload_n 1, 1) := by decide +kernel
theorem dX0_planVisits_42 : decode cX0_planVisits 42 = .ok (.iload_n 3, 1) := by decide +kernel
theorem dX0_planVisits_43 : decode cX0_planVisits 43 = .ok (.iastore, 1) := by decide +kernel
theorem dX0_planVisits_44 : decode cX0_planVisits 44 = .ok (.iinc 1 1, 3) := by decide +kernel
theorem dX0_planVisits_47 : decode cX0_planVisits 47 = .ok (.iinc 3 1, 3) := by decide +kernel
theorem dX0_planVisits_50 : decode cX0_planVisits 50 = .ok (.goto (-39), 3) := by decide +kernel
theorem dX0_planVisits_53 : decode cX0_planVisits 53 = .ok (.iinc 2 1, 3) := by decide +kernel
theorem dX0_planVisits_56 : decode cX0_planVisits 56 = .ok (.goto (-52), 3) := by decide +kernel
theorem dX0_planVisits_59 : decode cX0_planVisits 59 = .ok (.return_, 1) := by decide +kernel
theorem dX0_loavesFor_0 : decode cX0_loavesFor 0 = .ok (.iload_n 1, 1) := by decide +kernel
theorem dX0_loavesFor_1 : decode cX0_loavesFor 1 = .ok (.aload_n 0, 1) := by decide +kernel
theorem dX0_loavesFor_2 : decode cX0_loavesFor 2 = .ok (.getfield 25, 3) := by decide +kernel
theorem dX0_loavesFor_5 : decode cX0_loavesFor 5 = .ok (.iconst 1, 1) := by decide +kernel
theorem dX0_loavesFor_6 : decode cX0_loavesFor 6 = .ok (.iaload, 1) := by decide +kernel
theorem dX0_loavesFor_7 : decode cX0_loavesFor 7 = .ok (.iadd, 1) := by decide +kernel
theorem dX0_loavesFor_8 : decode cX0_loavesFor 8 = .ok (.aload_n 0, 1) := by decide +kernel
theorem dX0_loavesFor_9 : decode cX0_loavesFor 9 = .ok (.getfield 25, 3) := by decide +kernel
theorem dX0_loavesFor_12 : decode cX0_loavesFor 12 = .ok (.iconst 0, 1) := by decide +kernel
theorem dX0_loavesFor_13 : decode cX0_loavesFor 13 = .ok (.iaload, 1) := by decide +kernel
theorem dX0_loavesFor_14 : decode cX0_loavesFor 14 = .ok (.invokestatic 189, 3) := by decide +kernel
theorem dX0_loavesFor_17 : decode cX0_loavesFor 17 = .ok (.ireturn, 1) := by decide +kernel
theorem dX0_isReached_0 : decode cX0_isReached 0 = .ok (.aload_n 0, 1) := by decide +kernel
theorem dX0_isReached_1 : decode cX0_isReached 1 = .ok (.aload_n 1, 1) := by decide +kernel
theorem dX0_isReached_2 : decode cX0_isReached 2 = .ok (.getfield 81, 3) := by decide +kernel
theorem dX0_isReached_5 : decode cX0_isReached 5 = .ok (.aload_n 0, 1) := by decide +kernel
theorem dX0_isReached_6 : decode cX0_isReached 6 = .ok (.getfield 39, 3) := by decide +kernel
theorem dX0_isReached_9 : decode cX0_isReached 9 = .ok (.invokestatic 84, 3) := by decide +kernel
theorem dX0_isReached_12 : decode cX0_isReached 12 = .ok (.invokevirtual 87, 3) := by decide +kernel
theorem dX0_isReached_15 : decode cX0_isReached 15 = .ok (.ifCond .ne 7, 3) := by decide +kernel
theorem dX0_isReached_18 : decode cX0_isReached 18 = .ok (.iconst 1, 1) := by decide +kernel
theorem dX0_isReached_19 : decode cX0_isReached 19 = .ok (.goto 4, 3) := by decide +kernel
theorem dX0_isReached_22 : decode cX0_isReached 22 = .ok (.iconst 0, 1) := by decide +kernel
theorem dX0_isReached_23 : decode cX0_isReached 23 = .ok (.ireturn, 1) := by decide +kernel
theorem dX0_handOut_0 : decode cX0_handOut 0 = .ok (.iload_n 1, 1) := by decide +kernel
theorem dX0_handOut_1 : decode cX0_handOut 1 = .ok (.istore_n 2, 1) := by decide +kernel
theorem dX0_handOut_2 : decode cX0_handOut 2 = .ok (.iconst 0, 1) := by decide +kernel
theorem dX0_handOut_3 : decode cX0_handOut 3 = .ok (.istore_n 3, 1) := by decide +kernel
theorem dX0_handOut_4 : decode cX0_handOut 4 = .ok (.iload_n 3, 1) := by decide +kernel
theorem dX0_handOut_5 : decode cX0_handOut 5 = .ok (.aload_n 0, 1) := by decide +kernel
theorem dX0_handOut_6 : decode cX0_handOut 6 = .ok (.getfield 35, 3) := by decide +kernel
theorem dX0_handOut_9 : decode cX0_handOut 9 = .ok (.if_icmp .ge 86, 3) := by decide +kernel
theorem dX0_handOut_12 : decode cX0_handOut 12 = .ok (.aload_n 0, 1) := by decide +kernel
theorem dX0_handOut_13 : decode cX0_handOut 13 = .ok (.getfield 11, 3) := by decide +kernel
theorem dX0_handOut_16 : decode cX0_handOut 16 = .ok (.aload_n 0, 1) := by decide +kernel
theorem dX0_handOut_17 : decode cX0_handOut 17 = .ok (.getfield 28, 3) := by decide +kernel
theorem dX0_handOut_20 : decode cX0_handOut 20 = .ok (.iload_n 3, 1) := by decide +kernel
theorem dX0_handOut_21 : decode cX0_handOut 21 = .ok (.iaload, 1) := by decide +kernel
theorem dX0_handOut_22 : decode cX0_handOut 22 = .ok (.aaload, 1) := by decide +kernel
theorem dX0_handOut_23 : decode cX0_handOut 23 = .ok (.astore 4, 2) := by decide +kernel
theorem dX0_handOut_25 : decode cX0_handOut 25 = .ok (.aload 4, 2) := by decide +kernel
theorem dX0_handOut_27 : decode cX0_handOut 27 = .ok (.aload_n 0, 1) := by decide +kernel
theorem dX0_handOut_28 : decode cX0_handOut 28 = .ok (.getfield 39, 3) := by decide +kernel
theorem dX0_handOut_31 : decode cX0_handOut 31 = .ok (.invokevirtual 78, 3) := by decide +kernel
theorem dX0_handOut_34 : decode cX0_handOut 34 = .ok (.istore 5, 2) := by decide +kernel
theorem dX0_handOut_36 : decode cX0_handOut 36 = .ok (.aload_n 0, 1) := by decide +kernel
theorem dX0_handOut_37 : decode cX0_handOut 37 = .ok (.aload 4, 2) := by decide +kernel
theorem dX0_handOut_39 : decode cX0_handOut 39 = .ok (.invokevirtual 194, 3) := by decide +kernel
theorem dX0_handOut_42 : decode cX0_handOut 42 = .ok (.ifCond .eq 12, 3) := by decide +kernel
theorem dX0_handOut_45 : decode cX0_handOut 45 = .ok (.iload 5, 2) := by decide +kernel
theorem dX0_handOut_47 : decode cX0_handOut 47 = .ok (.iload_n 2, 1) := by decide +kernel
theorem dX0_handOut_48 : decode cX0_handOut 48 = .ok (.invokestatic 189, 3) := by decide +kernel
theorem dX0_handOut_51 : decode cX0_handOut 51 = .ok (.goto 4, 3) := by decide +kernel
theorem dX0_handOut_54 : decode cX0_handOut 54 = .ok (.iconst 0, 1) := by decide +kernel
theorem dX0_handOut_55 : decode cX0_handOut 55 = .ok (.istore 6, 2) := by decide +kernel
theorem dX0_handOut_57 : decode cX0_handOut 57 = .ok (.aload_n 0, 1) := by decide +kernel
theorem dX0_handOut_58 : decode cX0_handOut 58 = .ok (.dup, 1) := by decide +kernel
theorem dX0_handOut_59 : decode cX0_handOut 59 = .ok (.getfield 48, 3) := by decide +kernel
theorem dX0_handOut_62 : decode cX0_handOut 62 = .ok (.iload 5, 2) := by decide +kernel
theorem dX0_handOut_64 : decode cX0_handOut 64 = .ok (.aload_n 0, 1) := by decide +kernel
theorem dX0_handOut_65 : decode cX0_handOut 65 = .ok (.getfield 25, 3) := by decide +kernel
theorem dX0_handOut_68 : decode cX0_handOut 68 = .ok (.iconst 4, 1) := by decide +kernel
theorem dX0_handOut_69 : decode cX0_handOut 69 = .ok (.iaload, 1) := by decide +kernel
theorem dX0_handOut_70 : decode cX0_handOut 70 = .ok (.imul, 1) := by decide +kernel
theorem dX0_handOut_71 : decode cX0_handOut 71 = .ok (.iadd, 1) := by decide +kernel
theorem dX0_handOut_72 : decode cX0_handOut 72 = .ok (.putfield 48, 3) := by decide +kernel
theorem dX0_handOut_75 : decode cX0_handOut 75 = .ok (.aload 4, 2) := by decide +kernel
theorem dX0_handOut_77 : decode cX0_handOut 77 = .ok (.iload 5, 2) := by decide +kernel
theorem dX0_handOut_79 : decode cX0_handOut 79 = .ok (.iload 6, 2) := by decide +kernel
theorem dX0_handOut_81 : decode cX0_handOut 81 = .ok (.invokevirtual 198, 3) := by decide +kernel
theorem dX0_handOut_84 : decode cX0_handOut 84 = .ok (.iload_n 2, 1) := by decide +kernel
theorem dX0_handOut_85 : decode cX0_handOut 85 = .ok (.iload 6, 2) := by decide +kernel
theorem dX0_handOut_87 : decode cX0_handOut 87 = .ok (.isub, 1) := by decide +kernel
theorem dX0_handOut_88 : decode cX0_handOut 88 = .ok (.istore_n 2, 1) := by decide +kernel
theorem dX0_handOut_89 : decode cX0_handOut 89 = .ok (.iinc 3 1, 3) := by decide +kernel
theorem dX0_handOut_92 : decode cX0_handOut 92 = .ok (.goto (-88), 3) := by decide +kernel
theorem dX0_handOut_95 : decode cX0_handOut 95 = .ok (.iload_n 2, 1) := by decide +kernel
theorem dX0_handOut_96 : decode cX0_handOut 96 = .ok (.ireturn, 1) := by decide +kernel
theorem dX0_makeGood_0 : decode cX0_makeGood 0 = .ok (.iload_n 1, 1) := by decide +kernel
theorem dX0_makeGood_1 : decode cX0_makeGood 1 = .ok (.istore_n 2, 1) := by decide +kernel
theorem dX0_makeGood_2 : decode cX0_makeGood 2 = .ok (.iconst 0, 1) := by decide +kernel
theorem dX0_makeGood_3 : decode cX0_makeGood 3 = .ok (.istore_n 3, 1) := by decide +kernel
theorem dX0_makeGood_4 : decode cX0_makeGood 4 = .ok (.iload_n 3, 1) := by decide +kernel
theorem dX0_makeGood_5 : decode cX0_makeGood 5 = .ok (.aload_n 0, 1) := by decide +kernel
theorem dX0_makeGood_6 : decode cX0_makeGood 6 = .ok (.getfield 35, 3) := by decide +kernel
theorem dX0_makeGood_9 : decode cX0_makeGood 9 = .ok (.if_icmp .ge 75, 3) := by decide +kernel
theorem dX0_makeGood_12 : decode cX0_makeGood 12 = .ok (.aload_n 0, 1) := by decide +kernel
theorem dX0_makeGood_13 : decode cX0_makeGood 13 = .ok (.getfield 11, 3) := by decide +kernel
theorem dX0_makeGood_16 : decode cX0_makeGood 16 = .ok (.aload_n 0, 1) := by decide +kernel
theorem dX0_makeGood_17 : decode cX0_makeGood 17 = .ok (.getfield 28, 3) := by decide +kernel
theorem dX0_makeGood_20 : decode cX0_makeGood 20 = .ok (.iload_n 3, 1) := by decide +kernel
theorem dX0_makeGood_21 : decode cX0_makeGood 21 = .ok (.iaload, 1) := by decide +kernel
theorem dX0_makeGood_22 : decode cX0_makeGood 22 = .ok (.aaload, 1) := by decide +kernel
theorem dX0_makeGood_23 : decode cX0_makeGood 23 = .ok (.astore 4, 2) := by decide +kernel
theorem dX0_makeGood_25 : decode cX0_makeGood 25 = .ok (.aload_n 0, 1) := by decide +kernel
theorem dX0_makeGood_26 : decode cX0_makeGood 26 = .ok (.aload 4, 2) := by decide +kernel
theorem dX0_makeGood_28 : decode cX0_makeGood 28 = .ok (.invokevirtual 194, 3) := by decide +kernel
theorem dX0_makeGood_31 : decode cX0_makeGood 31 = .ok (.ifCond .eq 47, 3) := by decide +kernel
theorem dX0_makeGood_34 : decode cX0_makeGood 34 = .ok (.aload 4, 2) := by decide +kernel
theorem dX0_makeGood_36 : decode cX0_makeGood 36 = .ok (.aload_n 0, 1) := by decide +kernel
theorem dX0_makeGood_37 : decode cX0_makeGood 37 = .ok (.getfield 39, 3) := by decide +kernel
theorem dX0_makeGood_40 : decode cX0_makeGood 40 = .ok (.invokevirtual 201, 3) := by decide +kernel
theorem dX0_makeGood_43 : decode cX0_makeGood 43 = .ok (.ifCond .ne 35, 3) := by decide +kernel
theorem dX0_makeGood_46 : decode cX0_makeGood 46 = .ok (.iload_n 2, 1) := by decide +kernel
theorem dX0_makeGood_47 : decode cX0_makeGood 47 = .ok (.aload 4, 2) := by decide +kernel
theorem dX0_makeGood_49 : decode cX0_makeGood 49 = .ok (.getfield 204, 3) := by decide +kernel
theorem dX0_makeGood_52 : decode cX0_makeGood 52 = .ok (.aload_n 0, 1) := by decide +kernel
theorem dX0_makeGood_53 : decode cX0_makeGood 53 = .ok (.getfield 25, 3) := by decide +kernel
theorem dX0_makeGood_56 : decode cX0_makeGood 56 = .ok (.iconst 2, 1) := by decide +kernel
theorem dX0_makeGood_57 : decode cX0_makeGood 57 = .ok (.iaload, 1) := by decide +kernel
theorem dX0_makeGood_58 : decode cX0_makeGood 58 = .ok (.invokestatic 189, 3) := by decide +kernel
theorem dX0_makeGood_61 : decode cX0_makeGood 61 = .ok (.invokestatic 189, 3) := by decide +kernel
theorem dX0_makeGood_64 : decode cX0_makeGood 64 = .ok (.istore 5, 2) := by decide +kernel
theorem dX0_makeGood_66 : decode cX0_makeGood 66 = .ok (.aload 4, 2) := by decide +kernel
theorem dX0_makeGood_68 : decode cX0_makeGood 68 = .ok (.iload 5, 2) := by decide +kernel
theorem dX0_makeGood_70 : decode cX0_makeGood 70 = .ok (.invokevirtual 207, 3) := by decide +kernel
theorem dX0_makeGood_73 : decode cX0_makeGood 73 = .ok (.iload_n 2, 1) := by decide +kernel
theorem dX0_makeGood_74 : decode cX0_makeGood 74 = .ok (.iload 5, 2) := by decide +kernel
theorem dX0_makeGood_76 : decode cX0_makeGood 76 = .ok (.isub, 1) := by decide +kernel
theorem dX0_makeGood_77 : decode cX0_makeGood 77 = .ok (.istore_n 2, 1) := by decide +kernel
theorem dX0_makeGood_78 : decode cX0_makeGood 78 = .ok (.iinc 3 1, 3) := by decide +kernel
theorem dX0_makeGood_81 : decode cX0_makeGood 81 = .ok (.goto (-77), 3) := by decide +kernel
theorem dX0_makeGood_84 : decode cX0_makeGood 84 = .ok (.iload_n 2, 1) := by decide +kernel
theorem dX0_makeGood_85 : decode cX0_makeGood 85 = .ok (.ireturn, 1) := by decide +kernel
theorem dX0_payBack_0 : decode cX0_payBack 0 = .ok (.iconst 0, 1) := by decide +kernel
theorem dX0_payBack_1 : decode cX0_payBack 1 = .ok (.istore_n 1, 1) := by decide +kernel
theorem dX0_payBack_2 : decode cX0_payBack 2 = .ok (.iload_n 1, 1) := by decide +kernel
theorem dX0_payBack_3 : decode cX0_payBack 3 = .ok (.aload_n 0, 1) := by decide +kernel
theorem dX0_payBack_4 : decode cX0_payBack 4 = .ok (.getfield 35, 3) := by decide +kernel
theorem dX0_payBack_7 : decode cX0_payBack 7 = .ok (.if_icmp .ge 40, 3) := by decide +kernel
theorem dX0_payBack_10 : decode cX0_payBack 10 = .ok (.aload_n 0, 1) := by decide +kernel
theorem dX0_payBack_11 : decode cX0_payBack 11 = .ok (.dup, 1) := by decide +kernel
theorem dX0_payBack_12 : decode cX0_payBack 12 = .ok (.getfield 51, 3) := by decide +kernel
theorem dX0_payBack_15 : decode cX0_payBack 15 = .ok (.aload_n 0, 1) := by decide +kernel
theorem dX0_payBack_16 : decode cX0_payBack 16 = .ok (.getfield 11, 3) := by decide +kernel
theorem dX0_payBack_19 : decode cX0_payBack 19 = .ok (.iload_n 1, 1) := by decide +kernel
theorem dX0_payBack_20 : decode cX0_payBack 20 = .ok (.aaload, 1) := by decide +kernel
theorem dX0_payBack_21 : decode cX0_payBack 21 = .ok (.aload_n 0, 1) := by decide +kernel
theorem dX0_payBack_22 : decode cX0_payBack 22 = .ok (.getfield 25, 3) := by decide +kernel
theorem dX0_payBack_25 : decode cX0_payBack 25 = .ok (.iconst 3, 1) := by decide +kernel
theorem dX0_payBack_26 : decode cX0_payBack 26 = .ok (.iaload, 1) := by decide +kernel
theorem dX0_payBack_27 : decode cX0_payBack 27 = .ok (.invokevirtual 211, 3) := by decide +kernel
theorem dX0_payBack_30 : decode cX0_payBack 30 = .ok (.aload_n 0, 1) := by decide +kernel
theorem dX0_payBack_31 : decode cX0_payBack 31 = .ok (.getfield 25, 3) := by decide +kernel
theorem dX0_payBack_34 : decode cX0_payBack 34 = .ok (.iconst 4, 1) := by decide +kernel
theorem dX0_payBack_35 : decode cX0_payBack 35 = .ok (.iaload, 1) := by decide +kernel
theorem dX0_payBack_36 : decode cX0_payBack 36 = .ok (.imul, 1) := by decide +kernel
theorem dX0_payBack_37 : decode cX0_payBack 37 = .ok (.iadd, 1) := by decide +kernel
theorem dX0_payBack_38 : decode cX0_payBack 38 = .ok (.putfield 51, 3) := by decide +kernel
theorem dX0_payBack_41 : decode cX0_payBack 41 = .ok (.iinc 1 1, 3) := by decide +kernel
theorem dX0_payBack_44 : decode cX0_payBack 44 = .ok (.goto (-42), 3) := by decide +kernel
theorem dX0_payBack_47 : decode cX0_payBack 47 = .ok (.return_, 1) := by decide +kernel
theorem dX0_reasonFor_0 : decode cX0_reasonFor 0 = .ok (.aload_n 0, 1) := by decide +kernel
theorem dX0_reasonFor_1 : decode cX0_reasonFor 1 = .ok (.getfield 11, 3) := by decide +kernel
theorem dX0_reasonFor_4 : decode cX0_reasonFor 4 = .ok (.iload_n 1, 1) := by decide +kernel
theorem dX0_reasonFor_5 : decode cX0_reasonFor 5 = .ok (.aaload, 1) := by decide +kernel
theorem dX0_reasonFor_6 : decode cX0_reasonFor 6 = .ok (.astore_n 2, 1) := by decide +kernel
theorem dX0_reasonFor_7 : decode cX0_reasonFor 7 = .ok (.aload_n 2, 1) := by decide +kernel
theorem dX0_reasonFor_8 : decode cX0_reasonFor 8 = .ok (.getfield 214, 3) := by decide +kernel
theorem dX0_reasonFor_11 : decode cX0_reasonFor 11 = .ok (.aload_n 0, 1) := by decide +kernel
theorem dX0_reasonFor_12 : decode cX0_reasonFor 12 = .ok (.getfield 39, 3) := by decide +kernel
theorem dX0_reasonFor_15 : decode cX0_reasonFor 15 = .ok (.invokestatic 84, 3) := by decide +kernel
theorem dX0_reasonFor_18 : decode cX0_reasonFor 18 = .ok (.iaload, 1) := by decide +kernel
theorem dX0_reasonFor_19 : decode cX0_reasonFor 19 = .ok (.ifCond .ne 5, 3) := by decide +kernel
theorem dX0_reasonFor_22 : decode cX0_reasonFor 22 = .ok (.iconst 1, 1) := by decide +kernel
theorem dX0_reasonFor_23 : decode cX0_reasonFor 23 = .ok (.ireturn, 1) := by decide +kernel
theorem dX0_reasonFor_24 : decode cX0_reasonFor 24 = .ok (.aload_n 2, 1) := by decide +kernel
theorem dX0_reasonFor_25 : decode cX0_reasonFor 25 = .ok (.aload_n 0, 1) := by decide +kernel
theorem dX0_reasonFor_26 : decode cX0_reasonFor 26 = .ok (.getfield 39, 3) := by decide +kernel
theorem dX0_reasonFor_29 : decode cX0_reasonFor 29 = .ok (.invokevirtual 201, 3) := by decide +kernel
theorem dX0_reasonFor_32 : decode cX0_reasonFor 32 = .ok (.ifCond .eq 5, 3) := by decide +kernel
theorem dX0_reasonFor_35 : decode cX0_reasonFor 35 = .ok (.iconst 2, 1) := by decide +kernel
theorem dX0_reasonFor_36 : decode cX0_reasonFor 36 = .ok (.ireturn, 1) := by decide +kernel
theorem dX0_reasonFor_37 : decode cX0_reasonFor 37 = .ok (.aload_n 0, 1) := by decide +kernel
theorem dX0_reasonFor_38 : decode cX0_reasonFor 38 = .ok (.aload_n 2, 1) := by decide +kernel
theorem dX0_reasonFor_39 : decode cX0_reasonFor 39 = .ok (.invokevirtual 194, 3) := by decide +kernel
theorem dX0_reasonFor_42 : decode cX0_reasonFor 42 = .ok (.ifCond .ne 5, 3) := by decide +kernel
theorem dX0_reasonFor_45 : decode cX0_reasonFor 45 = .ok (.iconst 3, 1) := by decide +kernel
theorem dX0_reasonFor_46 : decode cX0_reasonFor 46 = .ok (.ireturn, 1) := by decide +kernel
theorem dX0_reasonFor_47 : decode cX0_reasonFor 47 = .ok (.aload_n 0, 1) := by decide +kernel
theorem dX0_reasonFor_48 : decode cX0_reasonFor 48 = .ok (.iload_n 1, 1) := by decide +kernel
theorem dX0_reasonFor_49 : decode cX0_reasonFor 49 = .ok (.invokevirtual 217, 3) := by decide +kernel
theorem dX0_reasonFor_52 : decode cX0_reasonFor 52 = .ok (.istore_n 3, 1) := by decide +kernel
theorem dX0_reasonFor_53 : decode cX0_reasonFor 53 = .ok (.iload_n 3, 1) := by decide +kernel
theorem dX0_reasonFor_54 : decode cX0_reasonFor 54 = .ok (.ifCond .ne 5, 3) := by decide +kernel
theorem dX0_reasonFor_57 : decode cX0_reasonFor 57 = .ok (.iconst 4, 1) := by decide +kernel
theorem dX0_reasonFor_58 : decode cX0_reasonFor 58 = .ok (.ireturn, 1) := by decide +kernel
theorem dX0_reasonFor_59 : decode cX0_reasonFor 59 = .ok (.iload_n 3, 1) := by decide +kernel
theorem dX0_reasonFor_60 : decode cX0_reasonFor 60 = .ok (.aload_n 2, 1) := by decide +kernel
theorem dX0_reasonFor_61 : decode cX0_reasonFor 61 = .ok (.aload_n 0, 1) := by decide +kernel
theorem dX0_reasonFor_62 : decode cX0_reasonFor 62 = .ok (.getfield 39, 3) := by decide +kernel
theorem dX0_reasonFor_65 : decode cX0_reasonFor 65 = .ok (.invokevirtual 78, 3) := by decide +kernel
theorem dX0_reasonFor_68 : decode cX0_reasonFor 68 = .ok (.if_icmp .ge 7, 3) := by decide +kernel
theorem dX0_reasonFor_71 : decode cX0_reasonFor 71 = .ok (.iconst 5, 1) := by decide +kernel
theorem dX0_reasonFor_72 : decode cX0_reasonFor 72 = .ok (.goto 4, 3) := by decide +kernel
theorem dX0_reasonFor_75 : decode cX0_reasonFor 75 = .ok (.iconst 0, 1) := by decide +kernel
theorem dX0_reasonFor_76 : decode cX0_reasonFor 76 = .ok (.ireturn, 1) := by decide +kernel
theorem dX0_leftBefore_0 : decode cX0_leftBefore 0 = .ok (.aload_n 0, 1) := by decide +kernel
theorem dX0_leftBefore_1 : decode cX0_leftBefore 1 = .ok (.invokevirtual 174, 3) := by decide +kernel
theorem dX0_leftBefore_4 : decode cX0_leftBefore 4 = .ok (.aload_n 0, 1) := by decide +kernel
theorem dX0_leftBefore_5 : decode cX0_leftBefore 5 = .ok (.aload_n 0, 1) := by decide +kernel
theorem dX0_leftBefore_6 : decode cX0_leftBefore 6 = .ok (.invokevirtual 71, 3) := by decide +kernel
theorem dX0_leftBefore_9 : decode cX0_leftBefore 9 = .ok (.invokevirtual 177, 3) := by decide +kernel
theorem dX0_leftBefore_12 : decode cX0_leftBefore 12 = .ok (.istore_n 2, 1) := by decide +kernel
theorem dX0_leftBefore_13 : decode cX0_leftBefore 13 = .ok (.iconst 0, 1) := by decide +kernel
theorem dX0_leftBefore_14 : decode cX0_leftBefore 14 = .ok (.istore_n 3, 1) := by decide +kernel
theorem dX0_leftBefore_15 : decode cX0_leftBefore 15 = .ok (.iload_n 3, 1) := by decide +kernel
theorem dX0_leftBefore_16 : decode cX0_leftBefore 16 = .ok (.aload_n 0, 1) := by decide +kernel
theorem dX0_leftBefore_17 : decode cX0_leftBefore 17 = .ok (.getfield 35, 3) := by decide +kernel
theorem dX0_leftBefore_20 : decode cX0_leftBefore 20 = .ok (.if_icmp .ge 57, 3) := by decide +kernel
theorem dX0_leftBefore_23 : decode cX0_leftBefore 23 = .ok (.aload_n 0, 1) := by decide +kernel
theorem dX0_leftBefore_24 : decode cX0_leftBefore 24 = .ok (.getfield 28, 3) := by decide +kernel
theorem dX0_leftBefore_27 : decode cX0_leftBefore 27 = .ok (.iload_n 3, 1) := by decide +kernel
theorem dX0_leftBefore_28 : decode cX0_leftBefore 28 = .ok (.iaload, 1) := by decide +kernel
theorem dX0_leftBefore_29 : decode cX0_leftBefore 29 = .ok (.iload_n 1, 1) := by decide +kernel
theorem dX0_leftBefore_30 : decode cX0_leftBefore 30 = .ok (.if_icmp .eq 47, 3) := by decide +kernel
theorem dX0_leftBefore_33 : decode cX0_leftBefore 33 = .ok (.aload_n 0, 1) := by decide +kernel
theorem dX0_leftBefore_34 : decode cX0_leftBefore 34 = .ok (.getfield 11, 3) := by decide +kernel
theorem dX0_leftBefore_37 : decode cX0_leftBefore 37 = .ok (.aload_n 0, 1) := by decide +kernel
theorem dX0_leftBefore_38 : decode cX0_leftBefore 38 = .ok (.getfield 28, 3) := by decide +kernel
theorem dX0_leftBefore_41 : decode cX0_leftBefore 41 = .ok (.iload_n 3, 1) := by decide +kernel
theorem dX0_leftBefore_42 : decode cX0_leftBefore 42 = .ok (.iaload, 1) := by decide +kernel
theorem dX0_leftBefore_43 : decode cX0_leftBefore 43 = .ok (.aaload, 1) := by decide +kernel
theorem dX0_leftBefore_44 : decode cX0_leftBefore 44 = .ok (.astore 4, 2) := by decide +kernel
theorem dX0_leftBefore_46 : decode cX0_leftBefore 46 = .ok (.aload_n 0, 1) := by decide +kernel
theorem dX0_leftBefore_47 : decode cX0_leftBefore 47 = .ok (.aload 4, 2) := by decide +kernel
theorem dX0_leftBefore_49 : decode cX0_leftBefore 49 = .ok (.invokevirtual 194, 3) := by decide +kernel
theorem dX0_leftBefore_52 : decode cX0_leftBefore 52 = .ok (.ifCond .eq 19, 3) := by decide +kernel
theorem dX0_leftBefore_55 : decode cX0_leftBefore 55 = .ok (.iload_n 2, 1) := by decide +kernel
theorem dX0_leftBefore_56 : decode cX0_leftBefore 56 = .ok (.iload_n 2, 1) := by decide +kernel
theorem dX0_leftBefore_57 : decode cX0_leftBefore 57 = .ok (.aload 4, 2) := by decide +kernel
theorem dX0_leftBefore_59 : decode cX0_leftBefore 59 = .ok (.aload_n 0, 1) := by decide +kernel
theorem dX0_leftBefore_60 : decode cX0_leftBefore 60 = .ok (.getfield 39, 3) := by decide +kernel
theorem dX0_leftBefore_63 : decode cX0_leftBefore 63 = .ok (.invokevirtual 78, 3) := by decide +kernel
theorem dX0_leftBefore_66 : decode cX0_leftBefore 66 = .ok (.invokestatic 189, 3) := by decide +kernel
theorem dX0_leftBefore_69 : decode cX0_leftBefore 69 = .ok (.isub, 1) := by decide +kernel
theorem dX0_leftBefore_70 : decode cX0_leftBefore 70 = .ok (.istore_n 2, 1) := by decide +kernel
theorem dX0_leftBefore_71 : decode cX0_leftBefore 71 = .ok (.iinc 3 1, 3) := by decide +kernel
theorem dX0_leftBefore_74 : decode cX0_leftBefore 74 = .ok (.goto (-59), 3) := by decide +kernel
theorem dX0_leftBefore_77 : decode cX0_leftBefore 77 = .ok (.iload_n 2, 1) := by decide +kernel
theorem dX0_leftBefore_78 : decode cX0_leftBefore 78 = .ok (.ireturn, 1) := by decide +kernel

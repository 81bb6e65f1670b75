theorem dX5_init_0 : decode cX5_init 0 = .ok (.aload_n 0, 1) := by decide +kernel
theorem dX5_init_1 : decode cX5_init 1 = .ok (.invokespecial 1, 3) := by decide +kernel
theorem dX5_init_4 : decode cX5_init 4 = .ok (.aload_n 0, 1) := by decide +kernel
theorem dX5_init_5 : decode cX5_init 5 = .ok (.new 7, 3) := by decide +kernel
theorem dX5_init_8 : decode cX5_init 8 = .ok (.dup, 1) := by decide +kernel
theorem dX5_init_9 : decode cX5_init 9 = .ok (.invokespecial 9, 3) := by decide +kernel
theorem dX5_init_12 : decode cX5_init 12 = .ok (.putfield 10, 3) := by decide +kernel
theorem dX5_init_15 : decode cX5_init 15 = .ok (.aload_n 0, 1) := by decide +kernel
theorem dX5_init_16 : decode cX5_init 16 = .ok (.new 16, 3) := by decide +kernel
theorem dX5_init_19 : decode cX5_init 19 = .ok (.dup, 1) := by decide +kernel
theorem dX5_init_20 : decode cX5_init 20 = .ok (.invokespecial 18, 3) := by decide +kernel
theorem dX5_init_23 : decode cX5_init 23 = .ok (.putfield 19, 3) := by decide +kernel
theorem dX5_init_26 : decode cX5_init 26 = .ok (.aload_n 0, 1) := by decide +kernel
theorem dX5_init_27 : decode cX5_init 27 = .ok (.new 16, 3) := by decide +kernel
theorem dX5_init_30 : decode cX5_init 30 = .ok (.dup, 1) := by decide +kernel
theorem dX5_init_31 : decode cX5_init 31 = .ok (.invokespecial 18, 3) := by decide +kernel
theorem dX5_init_34 : decode cX5_init 34 = .ok (.putfield 23, 3) := by decide +kernel
theorem dX5_init_37 : decode cX5_init 37 = .ok (.aload_n 0, 1) := by decide +kernel
theorem dX5_init_38 : decode cX5_init 38 = .ok (.new 26, 3) := by decide +kernel
theorem dX5_init_41 : decode cX5_init 41 = .ok (.dup, 1) := by decide +kernel
theorem dX5_init_42 : decode cX5_init 42 = .ok (.invokespecial 28, 3) := by decide +kernel
theorem dX5_init_45 : decode cX5_init 45 = .ok (.putfield 29, 3) := by decide +kernel
theorem dX5_init_48 : decode cX5_init 48 = .ok (.aload_n 0, 1) := by decide +kernel
theorem dX5_init_49 : decode cX5_init 49 = .ok (.iconst 2, 1) := by decide +kernel
theorem dX5_init_50 : decode cX5_init 50 = .ok (.anewarray 16, 3) := by decide +kernel
theorem dX5_init_53 : decode cX5_init 53 = .ok (.putfield 33, 3) := by decide +kernel
theorem dX5_init_56 : decode cX5_init 56 = .ok (.aload_n 0, 1) := by decide +kernel
theorem dX5_init_57 : decode cX5_init 57 = .ok (.iconst 2, 1) := by decide +kernel
theorem dX5_init_58 : decode cX5_init 58 = .ok (.newarray .boolean, 2) := by decide +kernel
theorem dX5_init_60 : decode cX5_init 60 = .ok (.putfield 37, 3) := by decide +kernel
theorem dX5_init_63 : decode cX5_init 63 = .ok (.iconst 0, 1) := by decide +kernel
theorem dX5_init_64 : decode cX5_init 64 = .ok (.istore_n 1, 1) := by decide +kernel
theorem dX5_init_65 : decode cX5_init 65 = .ok (.iload_n 1, 1) := by decide +kernel
theorem dX5_init_66 : decode cX5_init 66 = .ok (.iconst 2, 1) := by decide +kernel
theorem dX5_init_67 : decode cX5_init 67 = .ok (.if_icmp .ge 22, 3) := by decide +kernel
theorem dX5_init_70 : decode cX5_init 70 = .ok (.aload_n 0, 1) := by decide +kernel
theorem dX5_init_71 : decode cX5_init 71 = .ok (.getfield 33, 3) := by decide +kernel
theorem dX5_init_74 : decode cX5_init 74 = .ok (.iload_n 1, 1) := by decide +kernel
theorem dX5_init_75 : decode cX5_init 75 = .ok (.new 16, 3) := by decide +kernel
theorem dX5_init_78 : decode cX5_init 78 = .ok (.dup, 1) := by decide +kernel
theorem dX5_init_79 : decode cX5_init 79 = .ok (.invokespecial 18, 3) := by decide +kernel
theorem dX5_init_82 : decode cX5_init 82 = .ok (.aastore, 1) := by decide +kernel
theorem dX5_init_83 : decode cX5_init 83 = .ok (.iinc 1 1, 3) := by decide +kernel
theorem dX5_init_86 : decode cX5_init 86 = .ok (.goto (-21), 3) := by decide +kernel
theorem dX5_init_89 : decode cX5_init 89 = .ok (.return_, 1) := by decide +kernel
theorem dX5_append_0 : decode cX5_append 0 = .ok (.iload_n 1, 1) := by decide +kernel
theorem dX5_append_1 : decode cX5_append 1 = .ok (.iconst 0, 1) := by decide +kernel
theorem dX5_append_2 : decode cX5_append 2 = .ok (.sipush 255, 3) := by decide +kernel
theorem dX5_append_5 : decode cX5_append 5 = .ok (.invokestatic 41, 3) := by decide +kernel
theorem dX5_append_8 : decode cX5_append 8 = .ok (.invokestatic 45, 3) := by decide +kernel
theorem dX5_append_11 : decode cX5_append 11 = .ok (.aload_n 0, 1) := by decide +kernel
theorem dX5_append_12 : decode cX5_append 12 = .ok (.getfield 10, 3) := by decide +kernel
theorem dX5_append_15 : decode cX5_append 15 = .ok (.getfield 49, 3) := by decide +kernel
theorem dX5_append_18 : decode cX5_append 18 = .ok (.bipush 120, 2) := by decide +kernel
theorem dX5_append_20 : decode cX5_append 20 = .ok (.if_icmp .ge 7, 3) := by decide +kernel
theorem dX5_append_23 : decode cX5_append 23 = .ok (.iconst 1, 1) := by decide +kernel
theorem dX5_append_24 : decode cX5_append 24 = .ok (.goto 4, 3) := by decide +kernel
theorem dX5_append_27 : decode cX5_append 27 = .ok (.iconst 0, 1) := by decide +kernel
theorem dX5_append_28 : decode cX5_append 28 = .ok (.invokestatic 53, 3) := by decide +kernel
theorem dX5_append_31 : decode cX5_append 31 = .ok (.aload_n 0, 1) := by decide +kernel
theorem dX5_append_32 : decode cX5_append 32 = .ok (.getfield 10, 3) := by decide +kernel
theorem dX5_append_35 : decode cX5_append 35 = .ok (.iload_n 1, 1) := by decide +kernel
theorem dX5_append_36 : decode cX5_append 36 = .ok (.i2c, 1) := by decide +kernel
theorem dX5_append_37 : decode cX5_append 37 = .ok (.invokevirtual 56, 3) := by decide +kernel
theorem dX5_append_40 : decode cX5_append 40 = .ok (.ireturn, 1) := by decide +kernel
theorem dX5_load_0 : decode cX5_load 0 = .ok (.aload_n 0, 1) := by decide +kernel
theorem dX5_load_1 : decode cX5_load 1 = .ok (.getfield 10, 3) := by decide +kernel
theorem dX5_load_4 : decode cX5_load 4 = .ok (.invokevirtual 64, 3) := by decide +kernel
theorem dX5_load_7 : decode cX5_load 7 = .ok (.iconst (-1), 1) := by decide +kernel
theorem dX5_load_8 : decode cX5_load 8 = .ok (.if_icmp .ne 7, 3) := by decide +kernel
theorem dX5_load_11 : decode cX5_load 11 = .ok (.iconst 1, 1) := by decide +kernel
theorem dX5_load_12 : decode cX5_load 12 = .ok (.goto 4, 3) := by decide +kernel
theorem dX5_load_15 : decode cX5_load 15 = .ok (.iconst 0, 1) := by decide +kernel
theorem dX5_load_16 : decode cX5_load 16 = .ok (.invokestatic 53, 3) := by decide +kernel
theorem dX5_load_19 : decode cX5_load 19 = .ok (.aload_n 0, 1) := by decide +kernel
theorem dX5_load_20 : decode cX5_load 20 = .ok (.getfield 19, 3) := by decide +kernel
theorem dX5_load_23 : decode cX5_load 23 = .ok (.invokevirtual 67, 3) := by decide +kernel
theorem dX5_load_26 : decode cX5_load 26 = .ok (.aload_n 0, 1) := by decide +kernel
theorem dX5_load_27 : decode cX5_load 27 = .ok (.getfield 29, 3) := by decide +kernel
theorem dX5_load_30 : decode cX5_load 30 = .ok (.invokevirtual 70, 3) := by decide +kernel
theorem dX5_load_33 : decode cX5_load 33 = .ok (.iconst 0, 1) := by decide +kernel
theorem dX5_load_34 : decode cX5_load 34 = .ok (.istore_n 1, 1) := by decide +kernel
theorem dX5_load_35 : decode cX5_load 35 = .ok (.iload_n 1, 1) := by decide +kernel
theorem dX5_load_36 : decode cX5_load 36 = .ok (.iconst 2, 1) := by decide +kernel
theorem dX5_load_37 : decode cX5_load 37 = .ok (.if_icmp .ge 16, 3) := by decide +kernel
theorem dX5_load_40 : decode cX5_load 40 = .ok (.aload_n 0, 1) := by decide +kernel
theorem dX5_load_41 : decode cX5_load 41 = .ok (.getfield 37, 3) := by decide +kernel
theorem dX5_load_44 : decode cX5_load 44 = .ok (.iload_n 1, 1) := by decide +kernel
theorem dX5_load_45 : decode cX5_load 45 = .ok (.iconst 0, 1) := by decide +kernel
theorem dX5_load_46 : decode cX5_load 46 = .ok (.bastore, 1) := by decide +kernel
theorem dX5_load_47 : decode cX5_load 47 = .ok (.iinc 1 1, 3) := by decide +kernel
theorem dX5_load_50 : decode cX5_load 50 = .ok (.goto (-15), 3) := by decide +kernel
theorem dX5_load_53 : decode cX5_load 53 = .ok (.iconst 0, 1) := by decide +kernel
theorem dX5_load_54 : decode cX5_load 54 = .ok (.istore_n 1, 1) := by decide +kernel
theorem dX5_load_55 : decode cX5_load 55 = .ok (.iconst 1, 1) := by decide +kernel
theorem dX5_load_56 : decode cX5_load 56 = .ok (.istore_n 2, 1) := by decide +kernel
theorem dX5_load_57 : decode cX5_load 57 = .ok (.iload_n 2, 1) := by decide +kernel
theorem dX5_load_58 : decode cX5_load 58 = .ok (.aload_n 0, 1) := by decide +kernel
theorem dX5_load_59 : decode cX5_load 59 = .ok (.getfield 10, 3) := by decide +kernel
theorem dX5_load_62 : decode cX5_load 62 = .ok (.getfield 49, 3) := by decide +kernel
theorem dX5_load_65 : decode cX5_load 65 = .ok (.if_icmp .ge 38, 3) := by decide +kernel
theorem dX5_load_68 : decode cX5_load 68 = .ok (.aload_n 0, 1) := by decide +kernel
theorem dX5_load_69 : decode cX5_load 69 = .ok (.getfield 10, 3) := by decide +kernel
theorem dX5_load_72 : decode cX5_load 72 = .ok (.iload_n 2, 1) := by decide +kernel
theorem dX5_load_73 : decode cX5_load 73 = .ok (.aload_n 0, 1) := by decide +kernel
theorem dX5_load_74 : decode cX5_load 74 = .ok (.getfield 19, 3) := by decide +kernel
theorem dX5_load_77 : decode cX5_load 77 = .ok (.invokevirtual 73, 3) := by decide +kernel
theorem dX5_load_80 : decode cX5_load 80 = .ok (.iconst (-1), 1) := by decide +kernel
theorem dX5_load_81 : decode cX5_load 81 = .ok (.if_icmp .ne 6, 3) := by decide +kernel
theorem dX5_load_84 : decode cX5_load 84 = .ok (.iinc 1 1, 3) := by decide +kernel
theorem dX5_load_87 : decode cX5_load 87 = .ok (.iload_n 2, 1) := by decide +kernel
theorem dX5_load_88 : decode cX5_load 88 = .ok (.iconst 1, 1) := by decide +kernel
theorem dX5_load_89 : decode cX5_load 89 = .ok (.aload_n 0, 1) := by decide +kernel
theorem dX5_load_90 : decode cX5_load 90 = .ok (.getfield 10, 3) := by decide +kernel
theorem dX5_load_93 : decode cX5_load 93 = .ok (.iload_n 2, 1) := by decide +kernel
theorem dX5_load_94 : decode cX5_load 94 = .ok (.invokevirtual 77, 3) := by decide +kernel
theorem dX5_load_97 : decode cX5_load 97 = .ok (.iadd, 1) := by decide +kernel
theorem dX5_load_98 : decode cX5_load 98 = .ok (.iadd, 1) := by decide +kernel
theorem dX5_load_99 : decode cX5_load 99 = .ok (.istore_n 2, 1) := by decide +kernel
theorem dX5_load_100 : decode cX5_load 100 = .ok (.goto (-43), 3) := by decide +kernel
theorem dX5_load_103 : decode cX5_load 103 = .ok (.iload_n 1, 1) := by decide +kernel
theorem dX5_load_104 : decode cX5_load 104 = .ok (.ireturn, 1) := by decide +kernel
theorem dX5_about_0 : decode cX5_about 0 = .ok (.iload_n 1, 1) := by decide +kernel
theorem dX5_about_1 : decode cX5_about 1 = .ok (.iconst 0, 1) := by decide +kernel
theorem dX5_about_2 : decode cX5_about 2 = .ok (.bipush 12, 2) := by decide +kernel
theorem dX5_about_4 : decode cX5_about 4 = .ok (.invokestatic 41, 3) := by decide +kernel
theorem dX5_about_7 : decode cX5_about 7 = .ok (.invokestatic 45, 3) := by decide +kernel
theorem dX5_about_10 : decode cX5_about 10 = .ok (.aload_n 0, 1) := by decide +kernel
theorem dX5_about_11 : decode cX5_about 11 = .ok (.getfield 19, 3) := by decide +kernel
theorem dX5_about_14 : decode cX5_about 14 = .ok (.iload_n 1, 1) := by decide +kernel
theorem dX5_about_15 : decode cX5_about 15 = .ok (.invokevirtual 81, 3) := by decide +kernel
theorem dX5_about_18 : decode cX5_about 18 = .ok (.ireturn, 1) := by decide +kernel
theorem dX5_customerOf_0 : decode cX5_customerOf 0 = .ok (.aload_n 0, 1) := by decide +kernel
theorem dX5_customerOf_1 : decode cX5_customerOf 1 = .ok (.getfield 19, 3) := by decide +kernel
theorem dX5_customerOf_4 : decode cX5_customerOf 4 = .ok (.iload_n 1, 1) := by decide +kernel
theorem dX5_customerOf_5 : decode cX5_customerOf 5 = .ok (.invokevirtual 84, 3) := by decide +kernel
theorem dX5_customerOf_8 : decode cX5_customerOf 8 = .ok (.invokestatic 88, 3) := by decide +kernel
theorem dX5_customerOf_11 : decode cX5_customerOf 11 = .ok (.iload_n 2, 1) := by decide +kernel
theorem dX5_customerOf_12 : decode cX5_customerOf 12 = .ok (.iconst 0, 1) := by decide +kernel
theorem dX5_customerOf_13 : decode cX5_customerOf 13 = .ok (.bipush 10, 2) := by decide +kernel
theorem dX5_customerOf_15 : decode cX5_customerOf 15 = .ok (.invokestatic 41, 3) := by decide +kernel
theorem dX5_customerOf_18 : decode cX5_customerOf 18 = .ok (.invokestatic 45, 3) := by decide +kernel
theorem dX5_customerOf_21 : decode cX5_customerOf 21 = .ok (.iload_n 2, 1) := by decide +kernel
theorem dX5_customerOf_22 : decode cX5_customerOf 22 = .ok (.lookupswitch 66 #[(9, 26), (10, 46)], 26) := by decide +kernel
theorem dX5_customerOf_48 : decode cX5_customerOf 48 = .ok (.aload_n 0, 1) := by decide +kernel
theorem dX5_customerOf_49 : decode cX5_customerOf 49 = .ok (.getfield 19, 3) := by decide +kernel
theorem dX5_customerOf_52 : decode cX5_customerOf 52 = .ok (.getfield 91, 3) := by decide +kernel
theorem dX5_customerOf_55 : decode cX5_customerOf 55 = .ok (.iload_n 1, 1) := by decide +kernel
theorem dX5_customerOf_56 : decode cX5_customerOf 56 = .ok (.aaload, 1) := by decide +kernel
theorem dX5_customerOf_57 : decode cX5_customerOf 57 = .ok (.aload_n 0, 1) := by decide +kernel
theorem dX5_customerOf_58 : decode cX5_customerOf 58 = .ok (.getfield 19, 3) := by decide +kernel
theorem dX5_customerOf_61 : decode cX5_customerOf 61 = .ok (.getfield 95, 3) := by decide +kernel
theorem dX5_customerOf_64 : decode cX5_customerOf 64 = .ok (.invokevirtual 98, 3) := by decide +kernel
theorem dX5_customerOf_67 : decode cX5_customerOf 67 = .ok (.ireturn, 1) := by decide +kernel
theorem dX5_customerOf_68 : decode cX5_customerOf 68 = .ok (.aload_n 0, 1) := by decide +kernel
theorem dX5_customerOf_69 : decode cX5_customerOf 69 = .ok (.getfield 19, 3) := by decide +kernel
theorem dX5_customerOf_72 : decode cX5_customerOf 72 = .ok (.getfield 91, 3) := by decide +kernel
theorem dX5_customerOf_75 : decode cX5_customerOf 75 = .ok (.iload_n 1, 1) := by decide +kernel
theorem dX5_customerOf_76 : decode cX5_customerOf 76 = .ok (.aaload, 1) := by decide +kernel
theorem dX5_customerOf_77 : decode cX5_customerOf 77 = .ok (.aload_n 0, 1) := by decide +kernel
theorem dX5_customerOf_78 : decode cX5_customerOf 78 = .ok (.getfield 19, 3) := by decide +kernel
theorem dX5_customerOf_81 : decode cX5_customerOf 81 = .ok (.getfield 95, 3) := by decide +kernel
theorem dX5_customerOf_84 : decode cX5_customerOf 84 = .ok (.invokevirtual 103, 3) := by decide +kernel
theorem dX5_customerOf_87 : decode cX5_customerOf 87 = .ok (.ireturn, 1) := by decide +kernel
theorem dX5_customerOf_88 : decode cX5_customerOf 88 = .ok (.aload_n 0, 1) := by decide +kernel
theorem dX5_customerOf_89 : decode cX5_customerOf 89 = .ok (.getfield 19, 3) := by decide +kernel
theorem dX5_customerOf_92 : decode cX5_customerOf 92 = .ok (.getfield 91, 3) := by decide +kernel
theorem dX5_customerOf_95 : decode cX5_customerOf 95 = .ok (.iload_n 1, 1) := by decide +kernel
theorem dX5_customerOf_96 : decode cX5_customerOf 96 = .ok (.aaload, 1) := by decide +kernel
theorem dX5_customerOf_97 : decode cX5_customerOf 97 = .ok (.iload_n 2, 1) := by decide +kernel
theorem dX5_customerOf_98 : decode cX5_customerOf 98 = .ok (.invokevirtual 106, 3) := by decide +kernel
theorem dX5_customerOf_101 : decode cX5_customerOf 101 = .ok (.ireturn, 1) := by decide +kernel
theorem dX5_ordered_0 : decode cX5_ordered 0 = .ok (.aload_n 0, 1) := by decide +kernel
theorem dX5_ordered_1 : decode cX5_ordered 1 = .ok (.getfield 19, 3) := by decide +kernel
theorem dX5_ordered_4 : decode cX5_ordered 4 = .ok (.iload_n 1, 1) := by decide +kernel
theorem dX5_ordered_5 : decode cX5_ordered 5 = .ok (.invokevirtual 84, 3) := by decide +kernel
theorem dX5_ordered_8 : decode cX5_ordered 8 = .ok (.ifCond .eq 14, 3) := by decide +kernel
theorem dX5_ordered_11 : decode cX5_ordered 11 = .ok (.iload_n 2, 1) := by decide +kernel
theorem dX5_ordered_12 : decode cX5_ordered 12 = .ok (.invokestatic 107, 3) := by decide +kernel
theorem dX5_ordered_15 : decode cX5_ordered 15 = .ok (.ifCond .eq 7, 3) := by decide +kernel
theorem dX5_ordered_18 : decode cX5_ordered 18 = .ok (.iconst 1, 1) := by decide +kernel
theorem dX5_ordered_19 : decode cX5_ordered 19 = .ok (.goto 4, 3) := by decide +kernel
theorem dX5_ordered_22 : decode cX5_ordered 22 = .ok (.iconst 0, 1) := by decide +kernel
theorem dX5_ordered_23 : decode cX5_ordered 23 = .ok (.invokestatic 88, 3) := by decide +kernel
theorem dX5_ordered_26 : decode cX5_ordered 26 = .ok (.aload_n 0, 1) := by decide +kernel
theorem dX5_ordered_27 : decode cX5_ordered 27 = .ok (.getfield 19, 3) := by decide +kernel
theorem dX5_ordered_30 : decode cX5_ordered 30 = .ok (.getfield 91, 3) := by decide +kernel
theorem dX5_ordered_33 : decode cX5_ordered 33 = .ok (.iload_n 1, 1) := by decide +kernel
theorem dX5_ordered_34 : decode cX5_ordered 34 = .ok (.aaload, 1) := by decide +kernel
theorem dX5_ordered_35 : decode cX5_ordered 35 = .ok (.getfield 110, 3) := by decide +kernel
theorem dX5_ordered_38 : decode cX5_ordered 38 = .ok (.iload_n 2, 1) := by decide +kernel
theorem dX5_ordered_39 : decode cX5_ordered 39 = .ok (.iaload, 1) := by decide +kernel
theorem dX5_ordered_40 : decode cX5_ordered 40 = .ok (.ireturn, 1) := by decide +kernel
theorem dX5_away_0 : decode cX5_away 0 = .ok (.aload_n 0, 1) := by decide +kernel
theorem dX5_away_1 : decode cX5_away 1 = .ok (.getfield 19, 3) := by decide +kernel
theorem dX5_away_4 : decode cX5_away 4 = .ok (.iload_n 1, 1) := by decide +kernel
theorem dX5_away_5 : decode cX5_away 5 = .ok (.invokevirtual 84, 3) := by decide +kernel
theorem dX5_away_8 : decode cX5_away 8 = .ok (.ifCond .eq 16, 3) := by decide +kernel
theorem dX5_away_11 : decode cX5_away 11 = .ok (.iload_n 2, 1) := by decide +kernel
theorem dX5_away_12 : decode cX5_away 12 = .ok (.iconst 0, 1) := by decide +kernel
theorem dX5_away_13 : decode cX5_away 13 = .ok (.iconst 2, 1) := by decide +kernel
theorem dX5_away_14 : decode cX5_away 14 = .ok (.invokestatic 41, 3) := by decide +kernel
theorem dX5_away_17 : decode cX5_away 17 = .ok (.ifCond .eq 7, 3) := by decide +kernel
theorem dX5_away_20 : decode cX5_away 20 = .ok (.iconst 1, 1) := by decide +kernel
theorem dX5_away_21 : decode cX5_away 21 = .ok (.goto 4, 3) := by decide +kernel
theorem dX5_away_24 : decode cX5_away 24 = .ok (.iconst 0, 1) := by decide +kernel
theorem dX5_away_25 : decode cX5_away 25 = .ok (.invokestatic 88, 3) := by decide +kernel
theorem dX5_away_28 : decode cX5_away 28 = .ok (.iload_n 3, 1) := by decide +kernel
theorem dX5_away_29 : decode cX5_away 29 = .ok (.iconst 0, 1) := by decide +kernel
theorem dX5_away_30 : decode cX5_away 30 = .ok (.iconst 1, 1) := by decide +kernel
theorem dX5_away_31 : decode cX5_away 31 = .ok (.invokestatic 41, 3) := by decide +kernel
theorem dX5_away_34 : decode cX5_away 34 = .ok (.invokestatic 45, 3) := by decide +kernel
theorem dX5_away_37 : decode cX5_away 37 = .ok (.aload_n 0, 1) := by decide +kernel
theorem dX5_away_38 : decode cX5_away 38 = .ok (.getfield 19, 3) := by decide +kernel
theorem dX5_away_41 : decode cX5_away 41 = .ok (.getfield 91, 3) := by decide +kernel
theorem dX5_away_44 : decode cX5_away 44 = .ok (.iload_n 1, 1) := by decide +kernel
theorem dX5_away_45 : decode cX5_away 45 = .ok (.aaload, 1) := by decide +kernel
theorem dX5_away_46 : decode cX5_away 46 = .ok (.astore 4, 2) := by decide +kernel
theorem dX5_away_48 : decode cX5_away 48 = .ok (.iload_n 2, 1) := by decide +kernel
theorem dX5_away_49 : decode cX5_away 49 = .ok (.aload 4, 2) := by decide +kernel
theorem dX5_away_51 : decode cX5_away 51 = .ok (.getfield 114, 3) := by decide +kernel
theorem dX5_away_54 : decode cX5_away 54 = .ok (.if_icmp .lt 5, 3) := by decide +kernel
theorem dX5_away_57 : decode cX5_away 57 = .ok (.iconst (-1), 1) := by decide +kernel
theorem dX5_away_58 : decode cX5_away 58 = .ok (.ireturn, 1) := by decide +kernel
theorem dX5_away_59 : decode cX5_away 59 = .ok (.iload_n 3, 1) := by decide +kernel
theorem dX5_away_60 : decode cX5_away 60 = .ok (.ifCond .ne 13, 3) := by decide +kernel
theorem dX5_away_63 : decode cX5_away 63 = .ok (.aload 4, 2) := by decide +kernel
theorem dX5_away_65 : decode cX5_away 65 = .ok (.getfield 117, 3) := by decide +kernel
theorem dX5_away_68 : decode cX5_away 68 = .ok (.iload_n 2, 1) := by decide +kernel
theorem dX5_away_69 : decode cX5_away 69 = .ok (.iaload, 1) := by decide +kernel
theorem dX5_away_70 : decode cX5_away 70 = .ok (.goto 10, 3) := by decide +kernel
theorem dX5_away_73 : decode cX5_away 73 = .ok (.aload 4, 2) := by decide +kernel
theorem dX5_away_75 : decode cX5_away 75 = .ok (.getfield 120, 3) := by decide +kernel
theorem dX5_away_78 : decode cX5_away 78 = .ok (.iload_n 2, 1) := by decide +kernel
theorem dX5_away_79 : decode cX5_away 79 = .ok (.iaload, 1) := by decide +kernel
theorem dX5_away_80 : decode cX5_away 80 = .ok (.ireturn, 1) := by decide +kernel
theorem dX5_isClosed_0 : decode cX5_isClosed 0 = .ok (.iload_n 1, 1) := by decide +kernel
theorem dX5_isClosed_1 : decode cX5_isClosed 1 = .ok (.invokestatic 123, 3) := by decide +kernel
theorem dX5_isClosed_4 : decode cX5_isClosed 4 = .ok (.ifCond .eq 14, 3) := by decide +kernel
theorem dX5_isClosed_7 : decode cX5_isClosed 7 = .ok (.iload_n 2, 1) := by decide +kernel
theorem dX5_isClosed_8 : decode cX5_isClosed 8 = .ok (.invokestatic 107, 3) := by decide +kernel
theorem dX5_isClosed_11 : decode cX5_isClosed 11 = .ok (.ifCond .eq 7, 3) := by decide +kernel
theorem dX5_isClosed_14 : decode cX5_isClosed 14 = .ok (.iconst 1, 1) := by decide +kernel
theorem dX5_isClosed_15 : decode cX5_isClosed 15 = .ok (.goto 4, 3) := by decide +kernel
theorem dX5_isClosed_18 : decode cX5_isClosed 18 = .ok (.iconst 0, 1) := by decide +kernel
theorem dX5_isClosed_19 : decode cX5_isClosed 19 = .ok (.invokestatic 88, 3) := by decide +kernel
theorem dX5_isClosed_22 : decode cX5_isClosed 22 = .ok (.aload_n 0, 1) := by decide +kernel
theorem dX5_isClosed_23 : decode cX5_isClosed 23 = .ok (.getfield 19, 3) := by decide +kernel
theorem dX5_isClosed_26 : decode cX5_isClosed 26 = .ok (.iload_n 1, 1) := by decide +kernel
theorem dX5_isClosed_27 : decode cX5_isClosed 27 = .ok (.iload_n 2, 1) := by decide +kernel
theorem dX5_isClosed_28 : decode cX5_isClosed 28 = .ok (.invokevirtual 126, 3) := by decide +kernel
theorem dX5_isClosed_31 : decode cX5_isClosed 31 = .ok (.ifCond .eq 7, 3) := by decide +kernel
theorem dX5_isClosed_34 : decode cX5_isClosed 34 = .ok (.iconst 1, 1) := by decide +kernel
theorem dX5_isClosed_35 : decode cX5_isClosed 35 = .ok (.goto 4, 3) := by decide +kernel
theorem dX5_isClosed_38 : decode cX5_isClosed 38 = .ok (.iconst 0, 1) := by decide +kernel
theorem dX5_isClosed_39 : decode cX5_isClosed 39 = .ok (.ireturn, 1) := by decide +kernel
theorem dX5_round_0 : decode cX5_round 0 = .ok (.iload_n 1, 1) := by decide +kernel
theorem dX5_round_1 : decode cX5_round 1 = .ok (.iconst 0, 1) := by decide +kernel
theorem dX5_round_2 : decode cX5_round 2 = .ok (.iconst 3, 1) := by decide +kernel
theorem dX5_round_3 : decode cX5_round 3 = .ok (.invokestatic 41, 3) := by decide +kernel
theorem dX5_round_6 : decode cX5_round 6 = .ok (.invokestatic 88, 3) := by decide +kernel
theorem dX5_round_9 : decode cX5_round 9 = .ok (.aload_n 0, 1) := by decide +kernel
theorem dX5_round_10 : decode cX5_round 10 = .ok (.getfield 19, 3) := by decide +kernel
theorem dX5_round_13 : decode cX5_round 13 = .ok (.getfield 130, 3) := by decide +kernel
theorem dX5_round_16 : decode cX5_round 16 = .ok (.iload_n 1, 1) := by decide +kernel
theorem dX5_round_17 : decode cX5_round 17 = .ok (.iaload, 1) := by decide +kernel
theorem dX5_round_18 : decode cX5_round 18 = .ok (.ireturn, 1) := by decide +kernel
theorem dX5_setting_0 : decode cX5_setting 0 = .ok (.iload_n 1, 1) := by decide +kernel
theorem dX5_setting_1 : decode cX5_setting 1 = .ok (.invokestatic 133, 3) := by decide +kernel
theorem dX5_setting_4 : decode cX5_setting 4 = .ok (.invokestatic 45, 3) := by decide +kernel
theorem dX5_setting_7 : decode cX5_setting 7 = .ok (.aload_n 0, 1) := by decide +kernel
theorem dX5_setting_8 : decode cX5_setting 8 = .ok (.getfield 19, 3) := by decide +kernel
theorem dX5_setting_11 : decode cX5_setting 11 = .ok (.getfield 136, 3) := by decide +kernel
theorem dX5_setting_14 : decode cX5_setting 14 = .ok (.iload_n 1, 1) := by decide +kernel
theorem dX5_setting_15 : decode cX5_setting 15 = .ok (.iaload, 1) := by decide +kernel
theorem dX5_setting_16 : decode cX5_setting 16 = .ok (.ireturn, 1) := by decide +kernel
theorem dX5_due_0 : decode cX5_due 0 = .ok (.aload_n 0, 1) := by decide +kernel
theorem dX5_due_1 : decode cX5_due 1 = .ok (.getfield 19, 3) := by decide +kernel
theorem dX5_due_4 : decode cX5_due 4 = .ok (.iload_n 1, 1) := by decide +kernel
theorem dX5_due_5 : decode cX5_due 5 = .ok (.invokevirtual 84, 3) := by decide +kernel
theorem dX5_due_8 : decode cX5_due 8 = .ok (.invokestatic 88, 3) := by decide +kernel
theorem dX5_due_11 : decode cX5_due 11 = .ok (.iload_n 2, 1) := by decide +kernel
theorem dX5_due_12 : decode cX5_due 12 = .ok (.iconst 0, 1) := by decide +kernel
theorem dX5_due_13 : decode cX5_due 13 = .ok (.sipush 999, 3) := by decide +kernel
theorem dX5_due_16 : decode cX5_due 16 = .ok (.invokestatic 41, 3) := by decide +kernel
theorem dX5_due_19 : decode cX5_due 19 = .ok (.invokestatic 45, 3) := by decide +kernel
theorem dX5_due_22 : decode cX5_due 22 = .ok (.iload_n 3, 1) := by decide +kernel
theorem dX5_due_23 : decode cX5_due 23 = .ok (.iconst 0, 1) := by decide +kernel
theorem dX5_due_24 : decode cX5_due 24 = .ok (.sipush 500, 3) := by decide +kernel
theorem dX5_due_27 : decode cX5_due 27 = .ok (.invokestatic 41, 3) := by decide +kernel
theorem dX5_due_30 : decode cX5_due 30 = .ok (.invokestatic 45, 3) := by decide +kernel
theorem dX5_due_33 : decode cX5_due 33 = .ok (.iload 4, 2) := by decide +kernel
theorem dX5_due_35 : decode cX5_due 35 = .ok (.iconst 0, 1) := by decide +kernel
theorem dX5_due_36 : decode cX5_due 36 = .ok (.iconst 1, 1) := by decide +kernel
theorem dX5_due_37 : decode cX5_due 37 = .ok (.invokestatic 41, 3) := by decide +kernel
theorem dX5_due_40 : decode cX5_due 40 = .ok (.invokestatic 45, 3) := by decide +kernel
theorem dX5_due_43 : decode cX5_due 43 = .ok (.aload_n 0, 1) := by decide +kernel
theorem dX5_due_44 : decode cX5_due 44 = .ok (.getfield 19, 3) := by decide +kernel
theorem dX5_due_47 : decode cX5_due 47 = .ok (.getfield 91, 3) := by decide +kernel
theorem dX5_due_50 : decode cX5_due 50 = .ok (.iload_n 1, 1) := by decide +kernel
theorem dX5_due_51 : decode cX5_due 51 = .ok (.aaload, 1) := by decide +kernel
theorem dX5_due_52 : decode cX5_due 52 = .ok (.astore 5, 2) := by decide +kernel
theorem dX5_due_54 : decode cX5_due 54 = .ok (.iload 4, 2) := by decide +kernel
theorem dX5_due_56 : decode cX5_due 56 = .ok (.ifCond .ne 13, 3) := by decide +kernel
theorem dX5_due_59 : decode cX5_due 59 = .ok (.aload 5, 2) := by decide +kernel
theorem dX5_due_61 : decode cX5_due 61 = .ok (.iload_n 2, 1) := by decide +kernel
theorem dX5_due_62 : decode cX5_due 62 = .ok (.iload_n 3, 1) := by decide +kernel
theorem dX5_due_63 : decode cX5_due 63 = .ok (.invokevirtual 139, 3) := by decide +kernel
theorem dX5_due_66 : decode cX5_due 66 = .ok (.goto 10, 3) := by decide +kernel
theorem dX5_due_69 : decode cX5_due 69 = .ok (.aload 5, 2) := by decide +kernel
theorem dX5_due_71 : decode cX5_due 71 = .ok (.iload_n 2, 1) := by decide +kernel
theorem dX5_due_72 : decode cX5_due 72 = .ok (.iload_n 3, 1) := by decide +kernel
theorem dX5_due_73 : decode cX5_due 73 = .ok (.invokevirtual 143, 3) := by decide +kernel
theorem dX5_due_76 : decode cX5_due 76 = .ok (.ireturn, 1) := by decide +kernel
theorem dX5_customer_0 : decode cX5_customer 0 = .ok (.aload_n 0, 1) := by decide +kernel
theorem dX5_customer_1 : decode cX5_customer 1 = .ok (.iconst 0, 1) := by decide +kernel
theorem dX5_customer_2 : decode cX5_customer 2 = .ok (.iload_n 1, 1) := by decide +kernel
theorem dX5_customer_3 : decode cX5_customer 3 = .ok (.iload_n 2, 1) := by decide +kernel
theorem dX5_customer_4 : decode cX5_customer 4 = .ok (.iconst 0, 1) := by decide +kernel
theorem dX5_customer_5 : decode cX5_customer 5 = .ok (.invokevirtual 146, 3) := by decide +kernel
theorem dX5_customer_8 : decode cX5_customer 8 = .ok (.ireturn, 1) := by decide +kernel
theorem dX5_change_0 : decode cX5_change 0 = .ok (.aload_n 0, 1) := by decide +kernel
theorem dX5_change_1 : decode cX5_change 1 = .ok (.iconst 1, 1) := by decide +kernel
theorem dX5_change_2 : decode cX5_change 2 = .ok (.iload_n 1, 1) := by decide +kernel
theorem dX5_change_3 : decode cX5_change 3 = .ok (.iload_n 2, 1) := by decide +kernel
theorem dX5_change_4 : decode cX5_change 4 = .ok (.iload_n 3, 1) := by decide +kernel
theorem dX5_change_5 : decode cX5_change 5 = .ok (.invokevirtual 146, 3) := by decide +kernel
theorem dX5_change_8 : decode cX5_change 8 = .ok (.ireturn, 1) := by decide +kernel
theorem dX5_holiday_0 : decode cX5_holiday 0 = .ok (.aload_n 0, 1) := by decide +kernel
theorem dX5_holiday_1 : decode cX5_holiday 1 = .ok (.iconst 2, 1) := by decide +kernel
theorem dX5_holiday_2 : decode cX5_holiday 2 = .ok (.iload_n 1, 1) := by decide +kernel
theorem dX5_holiday_3 : decode cX5_holiday 3 = .ok (.iload_n 2, 1) := by decide +kernel
theorem dX5_holiday_4 : decode cX5_holiday 4 = .ok (.iload_n 3, 1) := by decide +kernel
theorem dX5_holiday_5 : decode cX5_holiday 5 = .ok (.invokevirtual 146, 3) := by decide +kernel
theorem dX5_holiday_8 : decode cX5_holiday 8 = .ok (.ireturn, 1) := by decide +kernel
theorem dX5_drop_0 : decode cX5_drop 0 = .ok (.aload_n 0, 1) := by decide +kernel
theorem dX5_drop_1 : decode cX5_drop 1 = .ok (.iconst 3, 1) := by decide +kernel
theorem dX5_drop_2 : decode cX5_drop 2 = .ok (.iload_n 1, 1) := by decide +kernel
theorem dX5_drop_3 : decode cX5_drop 3 = .ok (.iload_n 2, 1) := by decide +kernel
theorem dX5_drop_4 : decode cX5_drop 4 = .ok (.iconst 0, 1) := by decide +kernel
theorem dX5_drop_5 : decode cX5_drop 5 = .ok (.invokevirtual 146, 3) := by decide +kernel
theorem dX5_drop_8 : decode cX5_drop 8 = .ok (.ireturn, 1) := by decide +kernel
theorem dX5_close_0 : decode cX5_close 0 = .ok (.aload_n 0, 1) := by decide +kernel
theorem dX5_close_1 : decode cX5_close 1 = .ok (.iconst 4, 1) := by decide +kernel
theorem dX5_close_2 : decode cX5_close 2 = .ok (.iload_n 1, 1) := by decide +kernel
theorem dX5_close_3 : decode cX5_close 3 = .ok (.iload_n 2, 1) := by decide +kernel
theorem dX5_close_4 : decode cX5_close 4 = .ok (.iload_n 3, 1) := by decide +kernel
theorem dX5_close_5 : decode cX5_close 5 = .ok (.ifCond .eq 7, 3) := by decide +kernel
theorem dX5_close_8 : decode cX5_close 8 = .ok (.iconst 1, 1) := by decide +kernel
theorem dX5_close_9 : decode cX5_close 9 = .ok (.goto 4, 3) := by decide +kernel
theorem dX5_close_12 : decode cX5_close 12 = .ok (.iconst 0, 1) := by decide +kernel
theorem dX5_close_13 : decode cX5_close 13 = .ok (.invokevirtual 146, 3) := by decide +kernel
theorem dX5_close_16 : decode cX5_close 16 = .ok (.ireturn, 1) := by decide +kernel
theorem dX5_swap_0 : decode cX5_swap 0 = .ok (.aload_n 0, 1) := by decide +kernel
theorem dX5_swap_1 : decode cX5_swap 1 = .ok (.iconst 5, 1) := by decide +kernel
theorem dX5_swap_2 : decode cX5_swap 2 = .ok (.iload_n 1, 1) := by decide +kernel
theorem dX5_swap_3 : decode cX5_swap 3 = .ok (.iload_n 2, 1) := by decide +kernel
theorem dX5_swap_4 : decode cX5_swap 4 = .ok (.iconst 0, 1) := by decide +kernel
theorem dX5_swap_5 : decode cX5_swap 5 = .ok (.invokevirtual 146, 3) := by decide +kernel
theorem dX5_swap_8 : decode cX5_swap 8 = .ok (.ireturn, 1) := by decide +kernel
theorem dX5_set_0 : decode cX5_set 0 = .ok (.aload_n 0, 1) := by decide +kernel
theorem dX5_set_1 : decode cX5_set 1 = .ok (.bipush 6, 2) := by decide +kernel
theorem dX5_set_3 : decode cX5_set 3 = .ok (.iload_n 1, 1) := by decide +kernel
theorem dX5_set_4 : decode cX5_set 4 = .ok (.iload_n 2, 1) := by decide +kernel
theorem dX5_set_5 : decode cX5_set 5 = .ok (.iconst 0, 1) := by decide +kernel
theorem dX5_set_6 : decode cX5_set 6 = .ok (.invokevirtual 146, 3) := by decide +kernel
theorem dX5_set_9 : decode cX5_set 9 = .ok (.ireturn, 1) := by decide +kernel
theorem dX5_days_0 : decode cX5_days 0 = .ok (.aload_n 0, 1) := by decide +kernel
theorem dX5_days_1 : decode cX5_days 1 = .ok (.bipush 7, 2) := by decide +kernel
theorem dX5_days_3 : decode cX5_days 3 = .ok (.iload_n 1, 1) := by decide +kernel
theorem dX5_days_4 : decode cX5_days 4 = .ok (.iconst 0, 1) := by decide +kernel
theorem dX5_days_5 : decode cX5_days 5 = .ok (.iconst 0, 1) := by decide +kernel
theorem dX5_days_6 : decode cX5_days 6 = .ok (.invokevirtual 146, 3) := by decide +kernel
theorem dX5_days_9 : decode cX5_days 9 = .ok (.ireturn, 1) := by decide +kernel
theorem dX5_undo_0 : decode cX5_undo 0 = .ok (.aload_n 0, 1) := by decide +kernel
theorem dX5_undo_1 : decode cX5_undo 1 = .ok (.getfield 29, 3) := by decide +kernel
theorem dX5_undo_4 : decode cX5_undo 4 = .ok (.getfield 150, 3) := by decide +kernel
theorem dX5_undo_7 : decode cX5_undo 7 = .ok (.ifCond .le 7, 3) := by decide +kernel
theorem dX5_undo_10 : decode cX5_undo 10 = .ok (.iconst 1, 1) := by decide +kernel
theorem dX5_undo_11 : decode cX5_undo 11 = .ok (.goto 4, 3) := by decide +kernel
theorem dX5_undo_14 : decode cX5_undo 14 = .ok (.iconst 0, 1) := by decide +kernel
theorem dX5_undo_15 : decode cX5_undo 15 = .ok (.invokestatic 53, 3) := by decide +kernel
theorem dX5_undo_18 : decode cX5_undo 18 = .ok (.aload_n 0, 1) := by decide +kernel
theorem dX5_undo_19 : decode cX5_undo 19 = .ok (.getfield 29, 3) := by decide +kernel
theorem dX5_undo_22 : decode cX5_undo 22 = .ok (.aload_n 0, 1) := by decide +kernel
theorem dX5_undo_23 : decode cX5_undo 23 = .ok (.getfield 19, 3) := by decide +kernel
theorem dX5_undo_26 : decode cX5_undo 26 = .ok (.invokevirtual 153, 3) := by decide +kernel
theorem dX5_undo_29 : decode cX5_undo 29 = .ok (.ireturn, 1) := by decide +kernel
theorem dX5_why_0 : decode cX5_why 0 = .ok (.aload_n 0, 1) := by decide +kernel
theorem dX5_why_1 : decode cX5_why 1 = .ok (.getfield 19, 3) := by decide +kernel
theorem dX5_why_4 : decode cX5_why 4 = .ok (.iload_n 1, 1) := by decide +kernel
theorem dX5_why_5 : decode cX5_why 5 = .ok (.invokevirtual 84, 3) := by decide +kernel
theorem dX5_why_8 : decode cX5_why 8 = .ok (.invokestatic 88, 3) := by decide +kernel
theorem dX5_why_11 : decode cX5_why 11 = .ok (.aload_n 0, 1) := by decide +kernel
theorem dX5_why_12 : decode cX5_why 12 = .ok (.getfield 19, 3) := by decide +kernel
theorem dX5_why_15 : decode cX5_why 15 = .ok (.iload_n 1, 1) := by decide +kernel
theorem dX5_why_16 : decode cX5_why 16 = .ok (.invokevirtual 157, 3) := by decide +kernel
theorem dX5_why_19 : decode cX5_why 19 = .ok (.ireturn, 1) := by decide +kernel
theorem dX5_creditIn_0 : decode cX5_creditIn 0 = .ok (.aload_n 0, 1) := by decide +kernel
theorem dX5_creditIn_1 : decode cX5_creditIn 1 = .ok (.getfield 19, 3) := by decide +kernel
theorem dX5_creditIn_4 : decode cX5_creditIn 4 = .ok (.iload_n 1, 1) := by decide +kernel
theorem dX5_creditIn_5 : decode cX5_creditIn 5 = .ok (.invokevirtual 84, 3) := by decide +kernel
theorem dX5_creditIn_8 : decode cX5_creditIn 8 = .ok (.invokestatic 88, 3) := by decide +kernel
theorem dX5_creditIn_11 : decode cX5_creditIn 11 = .ok (.iload_n 2, 1) := by decide +kernel
theorem dX5_creditIn_12 : decode cX5_creditIn 12 = .ok (.iconst 0, 1) := by decide +kernel
theorem dX5_creditIn_13 : decode cX5_creditIn 13 = .ok (.sipush 200, 3) := by decide +kernel
theorem dX5_creditIn_16 : decode cX5_creditIn 16 = .ok (.invokestatic 41, 3) := by decide +kernel
theorem dX5_creditIn_19 : decode cX5_creditIn 19 = .ok (.invokestatic 45, 3) := by decide +kernel
theorem dX5_creditIn_22 : decode cX5_creditIn 22 = .ok (.aload_n 0, 1) := by decide +kernel
theorem dX5_creditIn_23 : decode cX5_creditIn 23 = .ok (.getfield 23, 3) := by decide +kernel
theorem dX5_creditIn_26 : decode cX5_creditIn 26 = .ok (.aload_n 0, 1) := by decide +kernel
theorem dX5_creditIn_27 : decode cX5_creditIn 27 = .ok (.getfield 19, 3) := by decide +kernel
theorem dX5_creditIn_30 : decode cX5_creditIn 30 = .ok (.invokevirtual 160, 3) := by decide +kernel
theorem dX5_creditIn_33 : decode cX5_creditIn 33 = .ok (.aload_n 0, 1) := by decide +kernel
theorem dX5_creditIn_34 : decode cX5_creditIn 34 = .ok (.getfield 23, 3) := by decide +kernel
theorem dX5_creditIn_37 : decode cX5_creditIn 37 = .ok (.iload_n 2, 1) := by decide +kernel
theorem dX5_creditIn_38 : decode cX5_creditIn 38 = .ok (.invokevirtual 164, 3) := by decide +kernel
theorem dX5_creditIn_41 : decode cX5_creditIn 41 = .ok (.pop, 1) := by decide +kernel
theorem dX5_creditIn_42 : decode cX5_creditIn 42 = .ok (.aload_n 0, 1) := by decide +kernel
theorem dX5_creditIn_43 : decode cX5_creditIn 43 = .ok (.getfield 23, 3) := by decide +kernel
theorem dX5_creditIn_46 : decode cX5_creditIn 46 = .ok (.getfield 91, 3) := by decide +kernel
theorem dX5_creditIn_49 : decode cX5_creditIn 49 = .ok (.iload_n 1, 1) := by decide +kernel
theorem dX5_creditIn_50 : decode cX5_creditIn 50 = .ok (.aaload, 1) := by decide +kernel
theorem dX5_creditIn_51 : decode cX5_creditIn 51 = .ok (.getfield 167, 3) := by decide +kernel
theorem dX5_creditIn_54 : decode cX5_creditIn 54 = .ok (.ireturn, 1) := by decide +kernel
theorem dX5_clearIn_0 : decode cX5_clearIn 0 = .ok (.aload_n 0, 1) := by decide +kernel
theorem dX5_clearIn_1 : decode cX5_clearIn 1 = .ok (.getfield 19, 3) := by decide +kernel
theorem dX5_clearIn_4 : decode cX5_clearIn 4 = .ok (.iload_n 1, 1) := by decide +kernel
theorem dX5_clearIn_5 : decode cX5_clearIn 5 = .ok (.invokevirtual 84, 3) := by decide +kernel
theorem dX5_clearIn_8 : decode cX5_clearIn 8 = .ok (.invokestatic 88, 3) := by decide +kernel
theorem dX5_clearIn_11 : decode cX5_clearIn 11 = .ok (.aload_n 0, 1) := by decide +kernel
theorem dX5_clearIn_12 : decode cX5_clearIn 12 = .ok (.getfield 23, 3) := by decide +kernel
theorem dX5_clearIn_15 : decode cX5_clearIn 15 = .ok (.aload_n 0, 1) := by decide +kernel
theorem dX5_clearIn_16 : decode cX5_clearIn 16 = .ok (.getfield 19, 3) := by decide +kernel
theorem dX5_clearIn_19 : decode cX5_clearIn 19 = .ok (.invokevirtual 160, 3) := by decide +kernel
theorem dX5_clearIn_22 : decode cX5_clearIn 22 = .ok (.iconst 0, 1) := by decide +kernel
theorem dX5_clearIn_23 : decode cX5_clearIn 23 = .ok (.istore_n 2, 1) := by decide +kernel
theorem dX5_clearIn_24 : decode cX5_clearIn 24 = .ok (.iload_n 2, 1) := by decide +kernel
theorem dX5_clearIn_25 : decode cX5_clearIn 25 = .ok (.sipush 200, 3) := by decide +kernel
theorem dX5_clearIn_28 : decode cX5_clearIn 28 = .ok (.if_icmp .gt 35, 3) := by decide +kernel
theorem dX5_clearIn_31 : decode cX5_clearIn 31 = .ok (.aload_n 0, 1) := by decide +kernel
theorem dX5_clearIn_32 : decode cX5_clearIn 32 = .ok (.getfield 23, 3) := by decide +kernel
theorem dX5_clearIn_35 : decode cX5_clearIn 35 = .ok (.getfield 91, 3) := by decide +kernel
theorem dX5_clearIn_38 : decode cX5_clearIn 38 = .ok (.iload_n 1, 1) := by decide +kernel
theorem dX5_clearIn_39 : decode cX5_clearIn 39 = .ok (.aaload, 1) := by decide +kernel
theorem dX5_clearIn_40 : decode cX5_clearIn 40 = .ok (.getfield 167, 3) := by decide +kernel
theorem dX5_clearIn_43 : decode cX5_clearIn 43 = .ok (.ifCond .ne 5, 3) := by decide +kernel
theorem dX5_clearIn_46 : decode cX5_clearIn 46 = .ok (.iload_n 2, 1) := by decide +kernel
theorem dX5_clearIn_47 : decode cX5_clearIn 47 = .ok (.ireturn, 1) := by decide +kernel
theorem dX5_clearIn_48 : decode cX5_clearIn 48 = .ok (.aload_n 0, 1) := by decide +kernel
theorem dX5_clearIn_49 : decode cX5_clearIn 49 = .ok (.getfield 23, 3) := by decide +kernel
theorem dX5_clearIn_52 : decode cX5_clearIn 52 = .ok (.iconst 1, 1) := by decide +kernel
theorem dX5_clearIn_53 : decode cX5_clearIn 53 = .ok (.invokevirtual 164, 3) := by decide +kernel
theorem dX5_clearIn_56 : decode cX5_clearIn 56 = .ok (.pop, 1) := by decide +kernel
theorem dX5_clearIn_57 : decode cX5_clearIn 57 = .ok (.iinc 2 1, 3) := by decide +kernel
theorem dX5_clearIn_60 : decode cX5_clearIn 60 = .ok (.goto (-36), 3) := by decide +kernel
theorem dX5_clearIn_63 : decode cX5_clearIn 63 = .ok (.iconst (-1), 1) := by decide +kernel
theorem dX5_clearIn_64 : decode cX5_clearIn 64 = .ok (.ireturn, 1) := by decide +kernel
theorem dX5_leastOven_0 : decode cX5_leastOven 0 = .ok (.iload_n 1, 1) := by decide +kernel
theorem dX5_leastOven_1 : decode cX5_leastOven 1 = .ok (.iconst 1, 1) := by decide +kernel
theorem dX5_leastOven_2 : decode cX5_leastOven 2 = .ok (.bipush 60, 2) := by decide +kernel
theorem dX5_leastOven_4 : decode cX5_leastOven 4 = .ok (.invokestatic 41, 3) := by decide +kernel
theorem dX5_leastOven_7 : decode cX5_leastOven 7 = .ok (.invokestatic 45, 3) := by decide +kernel
theorem dX5_leastOven_10 : decode cX5_leastOven 10 = .ok (.iconst 0, 1) := by decide +kernel
theorem dX5_leastOven_11 : decode cX5_leastOven 11 = .ok (.istore_n 2, 1) := by decide +kernel
theorem dX5_leastOven_12 : decode cX5_leastOven 12 = .ok (.aload_n 0, 1) := by decide +kernel
theorem dX5_leastOven_13 : decode cX5_leastOven 13 = .ok (.getfield 19, 3) := by decide +kernel
theorem dX5_leastOven_16 : decode cX5_leastOven 16 = .ok (.getfield 95, 3) := by decide +kernel
theorem dX5_leastOven_19 : decode cX5_leastOven 19 = .ok (.istore_n 3, 1) := by decide +kernel
theorem dX5_leastOven_20 : decode cX5_leastOven 20 = .ok (.iload_n 3, 1) := by decide +kernel
theorem dX5_leastOven_21 : decode cX5_leastOven 21 = .ok (.aload_n 0, 1) := by decide +kernel
theorem dX5_leastOven_22 : decode cX5_leastOven 22 = .ok (.getfield 19, 3) := by decide +kernel
theorem dX5_leastOven_25 : decode cX5_leastOven 25 = .ok (.getfield 95, 3) := by decide +kernel
theorem dX5_leastOven_28 : decode cX5_leastOven 28 = .ok (.iload_n 1, 1) := by decide +kernel
theorem dX5_leastOven_29 : decode cX5_leastOven 29 = .ok (.iadd, 1) := by decide +kernel
theorem dX5_leastOven_30 : decode cX5_leastOven 30 = .ok (.if_icmp .ge 22, 3) := by decide +kernel
theorem dX5_leastOven_33 : decode cX5_leastOven 33 = .ok (.iload_n 2, 1) := by decide +kernel
theorem dX5_leastOven_34 : decode cX5_leastOven 34 = .ok (.aload_n 0, 1) := by decide +kernel
theorem dX5_leastOven_35 : decode cX5_leastOven 35 = .ok (.getfield 19, 3) := by decide +kernel
theorem dX5_leastOven_38 : decode cX5_leastOven 38 = .ok (.iload_n 3, 1) := by decide +kernel
theorem dX5_leastOven_39 : decode cX5_leastOven 39 = .ok (.invokevirtual 170, 3) := by decide +kernel
theorem dX5_leastOven_42 : decode cX5_leastOven 42 = .ok (.invokestatic 173, 3) := by decide +kernel
theorem dX5_leastOven_45 : decode cX5_leastOven 45 = .ok (.istore_n 2, 1) := by decide +kernel
theorem dX5_leastOven_46 : decode cX5_leastOven 46 = .ok (.iinc 3 1, 3) := by decide +kernel
theorem dX5_leastOven_49 : decode cX5_leastOven 49 = .ok (.goto (-29), 3) := by decide +kernel
theorem dX5_leastOven_52 : decode cX5_leastOven 52 = .ok (.iload_n 2, 1) := by decide +kernel
theorem dX5_leastOven_53 : decode cX5_leastOven 53 = .ok (.ireturn, 1) := by decide +kernel
theorem dX5_bestRound_0 : decode cX5_bestRound 0 = .ok (.iload_n 1, 1) := by decide +kernel
theorem dX5_bestRound_1 : decode cX5_bestRound 1 = .ok (.iconst 1, 1) := by decide +kernel
theorem dX5_bestRound_2 : decode cX5_bestRound 2 = .ok (.bipush 30, 2) := by decide +kernel
theorem dX5_bestRound_4 : decode cX5_bestRound 4 = .ok (.invokestatic 41, 3) := by decide +kernel
theorem dX5_bestRound_7 : decode cX5_bestRound 7 = .ok (.invokestatic 45, 3) := by decide +kernel
theorem dX5_bestRound_10 : decode cX5_bestRound 10 = .ok (.iconst (-1), 1) := by decide +kernel
theorem dX5_bestRound_11 : decode cX5_bestRound 11 = .ok (.istore_n 2, 1) := by decide +kernel
theorem dX5_bestRound_12 : decode cX5_bestRound 12 = .ok (.iconst 0, 1) := by decide +kernel
theorem dX5_bestRound_13 : decode cX5_bestRound 13 = .ok (.istore_n 3, 1) := by decide +kernel
theorem dX5_bestRound_14 : decode cX5_bestRound 14 = .ok (.iconst 0, 1) := by decide +kernel
theorem dX5_bestRound_15 : decode cX5_bestRound 15 = .ok (.istore 4, 2) := by decide +kernel
theorem dX5_bestRound_17 : decode cX5_bestRound 17 = .ok (.iload 4, 2) := by decide +kernel
theorem dX5_bestRound_19 : decode cX5_bestRound 19 = .ok (.sipush 256, 3) := by decide +kernel
theorem dX5_bestRound_22 : decode cX5_bestRound 22 = .ok (.if_icmp .ge 78, 3) := by decide +kernel
theorem dX5_bestRound_25 : decode cX5_bestRound 25 = .ok (.iload 4, 2) := by decide +kernel
theorem dX5_bestRound_27 : decode cX5_bestRound 27 = .ok (.invokestatic 178, 3) := by decide +kernel
theorem dX5_bestRound_30 : decode cX5_bestRound 30 = .ok (.ifCond .eq 64, 3) := by decide +kernel
theorem dX5_bestRound_33 : decode cX5_bestRound 33 = .ok (.aload_n 0, 1) := by decide +kernel
theorem dX5_bestRound_34 : decode cX5_bestRound 34 = .ok (.getfield 23, 3) := by decide +kernel
theorem dX5_bestRound_37 : decode cX5_bestRound 37 = .ok (.aload_n 0, 1) := by decide +kernel
theorem dX5_bestRound_38 : decode cX5_bestRound 38 = .ok (.getfield 19, 3) := by decide +kernel
theorem dX5_bestRound_41 : decode cX5_bestRound 41 = .ok (.invokevirtual 160, 3) := by decide +kernel
theorem dX5_bestRound_44 : decode cX5_bestRound 44 = .ok (.aload_n 0, 1) := by decide +kernel
theorem dX5_bestRound_45 : decode cX5_bestRound 45 = .ok (.getfield 23, 3) := by decide +kernel
theorem dX5_bestRound_48 : decode cX5_bestRound 48 = .ok (.iload 4, 2) := by decide +kernel
theorem dX5_bestRound_50 : decode cX5_bestRound 50 = .ok (.invokevirtual 181, 3) := by decide +kernel
theorem dX5_bestRound_53 : decode cX5_bestRound 53 = .ok (.aload_n 0, 1) := by decide +kernel
theorem dX5_bestRound_54 : decode cX5_bestRound 54 = .ok (.getfield 23, 3) := by decide +kernel
theorem dX5_bestRound_57 : decode cX5_bestRound 57 = .ok (.iload_n 1, 1) := by decide +kernel
theorem dX5_bestRound_58 : decode cX5_bestRound 58 = .ok (.invokevirtual 164, 3) := by decide +kernel
theorem dX5_bestRound_61 : decode cX5_bestRound 61 = .ok (.pop, 1) := by decide +kernel
theorem dX5_bestRound_62 : decode cX5_bestRound 62 = .ok (.aload_n 0, 1) := by decide +kernel
theorem dX5_bestRound_63 : decode cX5_bestRound 63 = .ok (.getfield 23, 3) := by decide +kernel
theorem dX5_bestRound_66 : decode cX5_bestRound 66 = .ok (.iconst 2, 1) := by decide +kernel
theorem dX5_bestRound_67 : decode cX5_bestRound 67 = .ok (.invokevirtual 185, 3) := by decide +kernel
theorem dX5_bestRound_70 : decode cX5_bestRound 70 = .ok (.istore 5, 2) := by decide +kernel
theorem dX5_bestRound_72 : decode cX5_bestRound 72 = .ok (.iload_n 2, 1) := by decide +kernel
theorem dX5_bestRound_73 : decode cX5_bestRound 73 = .ok (.iconst (-1), 1) := by decide +kernel
theorem dX5_bestRound_74 : decode cX5_bestRound 74 = .ok (.if_icmp .eq 9, 3) := by decide +kernel
theorem dX5_bestRound_77 : decode cX5_bestRound 77 = .ok (.iload 5, 2) := by decide +kernel
theorem dX5_bestRound_79 : decode cX5_bestRound 79 = .ok (.iload_n 3, 1) := by decide +kernel
theorem dX5_bestRound_80 : decode cX5_bestRound 80 = .ok (.if_icmp .ge 14, 3) := by decide +kernel
theorem dX5_bestRound_83 : decode cX5_bestRound 83 = .ok (.aload_n 0, 1) := by decide +kernel
theorem dX5_bestRound_84 : decode cX5_bestRound 84 = .ok (.getfield 23, 3) := by decide +kernel
theorem dX5_bestRound_87 : decode cX5_bestRound 87 = .ok (.invokevirtual 188, 3) := by decide +kernel
theorem dX5_bestRound_90 : decode cX5_bestRound 90 = .ok (.istore_n 2, 1) := by decide +kernel
theorem dX5_bestRound_91 : decode cX5_bestRound 91 = .ok (.iload 5, 2) := by decide +kernel
theorem dX5_bestRound_93 : decode cX5_bestRound 93 = .ok (.istore_n 3, 1) := by decide +kernel
theorem dX5_bestRound_94 : decode cX5_bestRound 94 = .ok (.iinc 4 1, 3) := by decide +kernel
theorem dX5_bestRound_97 : decode cX5_bestRound 97 = .ok (.goto (-80), 3) := by decide +kernel
theorem dX5_bestRound_100 : decode cX5_bestRound 100 = .ok (.iload_n 2, 1) := by decide +kernel
theorem dX5_bestRound_101 : decode cX5_bestRound 101 = .ok (.ireturn, 1) := by decide +kernel
theorem dX5_runScript_0 : decode cX5_runScript 0 = .ok (.iload_n 1, 1) := by decide +kernel
theorem dX5_runScript_1 : decode cX5_runScript 1 = .ok (.iconst 1, 1) := by decide +kernel
theorem dX5_runScript_2 : decode cX5_runScript 2 = .ok (.iconst 3, 1) := by decide +kernel
theorem dX5_runScript_3 : decode cX5_runScript 3 = .ok (.invokestatic 41, 3) := by decide +kernel
theorem dX5_runScript_6 : decode cX5_runScript 6 = .ok (.invokestatic 45, 3) := by decide +kernel
theorem dX5_runScript_9 : decode cX5_runScript 9 = .ok (.lconst 1, 1) := by decide +kernel
theorem dX5_runScript_10 : decode cX5_runScript 10 = .ok (.lstore 4, 2) := by decide +kernel
theorem dX5_runScript_12 : decode cX5_runScript 12 = .ok (.iconst 0, 1) := by decide +kernel
theorem dX5_runScript_13 : decode cX5_runScript 13 = .ok (.istore 6, 2) := by decide +kernel
theorem dX5_runScript_15 : decode cX5_runScript 15 = .ok (.iload 6, 2) := by decide +kernel
theorem dX5_runScript_17 : decode cX5_runScript 17 = .ok (.iload_n 1, 1) := by decide +kernel
theorem dX5_runScript_18 : decode cX5_runScript 18 = .ok (.if_icmp .ge 17, 3) := by decide +kernel
theorem dX5_runScript_21 : decode cX5_runScript 21 = .ok (.lload 4, 2) := by decide +kernel
theorem dX5_runScript_23 : decode cX5_runScript 23 = .ok (.ldc2_w 191, 3) := by decide +kernel
theorem dX5_runScript_26 : decode cX5_runScript 26 = .ok (.lmul, 1) := by decide +kernel
theorem dX5_runScript_27 : decode cX5_runScript 27 = .ok (.lstore 4, 2) := by decide +kernel
theorem dX5_runScript_29 : decode cX5_runScript 29 = .ok (.iinc 6 1, 3) := by decide +kernel
theorem dX5_runScript_32 : decode cX5_runScript 32 = .ok (.goto (-17), 3) := by decide +kernel
theorem dX5_runScript_35 : decode cX5_runScript 35 = .ok (.lload_n 2, 1) := by decide +kernel
theorem dX5_runScript_36 : decode cX5_runScript 36 = .ok (.lconst 0, 1) := by decide +kernel
theorem dX5_runScript_37 : decode cX5_runScript 37 = .ok (.lcmp, 1) := by decide +kernel
theorem dX5_runScript_38 : decode cX5_runScript 38 = .ok (.ifCond .lt 14, 3) := by decide +kernel
theorem dX5_runScript_41 : decode cX5_runScript 41 = .ok (.lload_n 2, 1) := by decide +kernel
theorem dX5_runScript_42 : decode cX5_runScript 42 = .ok (.lload 4, 2) := by decide +kernel
theorem dX5_runScript_44 : decode cX5_runScript 44 = .ok (.lcmp, 1) := by decide +kernel
theorem dX5_runScript_45 : decode cX5_runScript 45 = .ok (.ifCond .ge 7, 3) := by decide +kernel
theorem dX5_runScript_48 : decode cX5_runScript 48 = .ok (.iconst 1, 1) := by decide +kernel
theorem dX5_runScript_49 : decode cX5_runScript 49 = .ok (.goto 4, 3) := by decide +kernel
theorem dX5_runScript_52 : decode cX5_runScript 52 = .ok (.iconst 0, 1) := by decide +kernel
theorem dX5_runScript_53 : decode cX5_runScript 53 = .ok (.invokestatic 45, 3) := by decide +kernel
theorem dX5_runScript_56 : decode cX5_runScript 56 = .ok (.aload_n 0, 1) := by decide +kernel
theorem dX5_runScript_57 : decode cX5_runScript 57 = .ok (.getfield 23, 3) := by decide +kernel
theorem dX5_runScript_60 : decode cX5_runScript 60 = .ok (.aload_n 0, 1) := by decide +kernel
theorem dX5_runScript_61 : decode cX5_runScript 61 = .ok (.getfield 19, 3) := by decide +kernel
theorem dX5_runScript_64 : decode cX5_runScript 64 = .ok (.invokevirtual 160, 3) := by decide +kernel
theorem dX5_runScript_67 : decode cX5_runScript 67 = .ok (.iconst 0, 1) := by decide +kernel
theorem dX5_runScript_68 : decode cX5_runScript 68 = .ok (.istore 6, 2) := by decide +kernel
theorem dX5_runScript_70 : decode cX5_runScript 70 = .ok (.iload 6, 2) := by decide +kernel
theorem dX5_runScript_72 : decode cX5_runScript 72 = .ok (.iload_n 1, 1) := by decide +kernel
theorem dX5_runScript_73 : decode cX5_runScript 73 = .ok (.if_icmp .ge 29, 3) := by decide +kernel
theorem dX5_runScript_76 : decode cX5_runScript 76 = .ok (.aload_n 0, 1) := by decide +kernel
theorem dX5_runScript_77 : decode cX5_runScript 77 = .ok (.lload_n 2, 1) := by decide +kernel
theorem dX5_runScript_78 : decode cX5_runScript 78 = .ok (.iload_n 1, 1) := by decide +kernel
theorem dX5_runScript_79 : decode cX5_runScript 79 = .ok (.iconst 1, 1) := by decide +kernel
theorem dX5_runScript_80 : decode cX5_runScript 80 = .ok (.isub, 1) := by decide +kernel
theorem dX5_runScript_81 : decode cX5_runScript 81 = .ok (.iload 6, 2) := by decide +kernel
theorem dX5_runScript_83 : decode cX5_runScript 83 = .ok (.isub, 1) := by decide +kernel
theorem dX5_runScript_84 : decode cX5_runScript 84 = .ok (.invokestatic 193, 3) := by decide +kernel
theorem dX5_runScript_87 : decode cX5_runScript 87 = .ok (.invokevirtual 197, 3) := by decide +kernel
theorem dX5_runScript_90 : decode cX5_runScript 90 = .ok (.ifCond .ne 6, 3) := by decide +kernel
theorem dX5_runScript_93 : decode cX5_runScript 93 = .ok (.iload 6, 2) := by decide +kernel
theorem dX5_runScript_95 : decode cX5_runScript 95 = .ok (.ireturn, 1) := by decide +kernel
theorem dX5_runScript_96 : decode cX5_runScript 96 = .ok (.iinc 6 1, 3) := by decide +kernel
theorem dX5_runScript_99 : decode cX5_runScript 99 = .ok (.goto (-29), 3) := by decide +kernel
theorem dX5_runScript_102 : decode cX5_runScript 102 = .ok (.iconst (-1), 1) := by decide +kernel
theorem dX5_runScript_103 : decode cX5_runScript 103 = .ok (.ireturn, 1) := by decide +kernel
theorem dX5_simulate_0 : decode cX5_simulate 0 = .ok (.iload_n 3, 1) := by decide +kernel
theorem dX5_simulate_1 : decode cX5_simulate 1 = .ok (.iconst 1, 1) := by decide +kernel
theorem dX5_simulate_2 : decode cX5_simulate 2 = .ok (.bipush 60, 2) := by decide +kernel
theorem dX5_simulate_4 : decode cX5_simulate 4 = .ok (.invokestatic 41, 3) := by decide +kernel
theorem dX5_simulate_7 : decode cX5_simulate 7 = .ok (.invokestatic 45, 3) := by decide +kernel
theorem dX5_simulate_10 : decode cX5_simulate 10 = .ok (.aload_n 0, 1) := by decide +kernel
theorem dX5_simulate_11 : decode cX5_simulate 11 = .ok (.getfield 23, 3) := by decide +kernel
theorem dX5_simulate_14 : decode cX5_simulate 14 = .ok (.aload_n 0, 1) := by decide +kernel
theorem dX5_simulate_15 : decode cX5_simulate 15 = .ok (.getfield 19, 3) := by decide +kernel
theorem dX5_simulate_18 : decode cX5_simulate 18 = .ok (.invokevirtual 160, 3) := by decide +kernel
theorem dX5_simulate_21 : decode cX5_simulate 21 = .ok (.lload_n 1, 1) := by decide +kernel
theorem dX5_simulate_22 : decode cX5_simulate 22 = .ok (.lstore 4, 2) := by decide +kernel
theorem dX5_simulate_24 : decode cX5_simulate 24 = .ok (.iconst 0, 1) := by decide +kernel
theorem dX5_simulate_25 : decode cX5_simulate 25 = .ok (.istore 6, 2) := by decide +kernel
theorem dX5_simulate_27 : decode cX5_simulate 27 = .ok (.iload 6, 2) := by decide +kernel
theorem dX5_simulate_29 : decode cX5_simulate 29 = .ok (.iload_n 3, 1) := by decide +kernel
theorem dX5_simulate_30 : decode cX5_simulate 30 = .ok (.if_icmp .ge 31, 3) := by decide +kernel
theorem dX5_simulate_33 : decode cX5_simulate 33 = .ok (.lload 4, 2) := by decide +kernel
theorem dX5_simulate_35 : decode cX5_simulate 35 = .ok (.ldc2_w 200, 3) := by decide +kernel
theorem dX5_simulate_38 : decode cX5_simulate 38 = .ok (.lmul, 1) := by decide +kernel
theorem dX5_simulate_39 : decode cX5_simulate 39 = .ok (.ldc2_w 202, 3) := by decide +kernel
theorem dX5_simulate_42 : decode cX5_simulate 42 = .ok (.ladd, 1) := by decide +kernel
theorem dX5_simulate_43 : decode cX5_simulate 43 = .ok (.lstore 4, 2) := by decide +kernel
theorem dX5_simulate_45 : decode cX5_simulate 45 = .ok (.aload_n 0, 1) := by decide +kernel
theorem dX5_simulate_46 : decode cX5_simulate 46 = .ok (.lload 4, 2) := by decide +kernel
theorem dX5_simulate_48 : decode cX5_simulate 48 = .ok (.bipush 33, 2) := by decide +kernel
theorem dX5_simulate_50 : decode cX5_simulate 50 = .ok (.lushr, 1) := by decide +kernel
theorem dX5_simulate_51 : decode cX5_simulate 51 = .ok (.l2i, 1) := by decide +kernel
theorem dX5_simulate_52 : decode cX5_simulate 52 = .ok (.invokevirtual 204, 3) := by decide +kernel
theorem dX5_simulate_55 : decode cX5_simulate 55 = .ok (.iinc 6 1, 3) := by decide +kernel
theorem dX5_simulate_58 : decode cX5_simulate 58 = .ok (.goto (-31), 3) := by decide +kernel
theorem dX5_simulate_61 : decode cX5_simulate 61 = .ok (.aload_n 0, 1) := by decide +kernel
theorem dX5_simulate_62 : decode cX5_simulate 62 = .ok (.getfield 23, 3) := by decide +kernel
theorem dX5_simulate_65 : decode cX5_simulate 65 = .ok (.iconst 3, 1) := by decide +kernel
theorem dX5_simulate_66 : decode cX5_simulate 66 = .ok (.invokevirtual 185, 3) := by decide +kernel
theorem dX5_simulate_69 : decode cX5_simulate 69 = .ok (.aload_n 0, 1) := by decide +kernel
theorem dX5_simulate_70 : decode cX5_simulate 70 = .ok (.getfield 19, 3) := by decide +kernel
theorem dX5_simulate_73 : decode cX5_simulate 73 = .ok (.iconst 3, 1) := by decide +kernel
theorem dX5_simulate_74 : decode cX5_simulate 74 = .ok (.invokevirtual 185, 3) := by decide +kernel
theorem dX5_simulate_77 : decode cX5_simulate 77 = .ok (.isub, 1) := by decide +kernel
theorem dX5_simulate_78 : decode cX5_simulate 78 = .ok (.istore 6, 2) := by decide +kernel
theorem dX5_simulate_80 : decode cX5_simulate 80 = .ok (.sipush 1000, 3) := by decide +kernel
theorem dX5_simulate_83 : decode cX5_simulate 83 = .ok (.iload 6, 2) := by decide +kernel
theorem dX5_simulate_85 : decode cX5_simulate 85 = .ok (.sipush 1000, 3) := by decide +kernel
theorem dX5_simulate_88 : decode cX5_simulate 88 = .ok (.irem, 1) := by decide +kernel
theorem dX5_simulate_89 : decode cX5_simulate 89 = .ok (.imul, 1) := by decide +kernel
theorem dX5_simulate_90 : decode cX5_simulate 90 = .ok (.aload_n 0, 1) := by decide +kernel
theorem dX5_simulate_91 : decode cX5_simulate 91 = .ok (.getfield 23, 3) := by decide +kernel
theorem dX5_simulate_94 : decode cX5_simulate 94 = .ok (.iconst 2, 1) := by decide +kernel
theorem dX5_simulate_95 : decode cX5_simulate 95 = .ok (.invokevirtual 185, 3) := by decide +kernel
theorem dX5_simulate_98 : decode cX5_simulate 98 = .ok (.iadd, 1) := by decide +kernel
theorem dX5_simulate_99 : decode cX5_simulate 99 = .ok (.ireturn, 1) := by decide +kernel
theorem dX5_save_0 : decode cX5_save 0 = .ok (.iload_n 1, 1) := by decide +kernel
theorem dX5_save_1 : decode cX5_save 1 = .ok (.invokestatic 207, 3) := by decide +kernel
theorem dX5_save_4 : decode cX5_save 4 = .ok (.invokestatic 88, 3) := by decide +kernel
theorem dX5_save_7 : decode cX5_save 7 = .ok (.aload_n 0, 1) := by decide +kernel
theorem dX5_save_8 : decode cX5_save 8 = .ok (.getfield 33, 3) := by decide +kernel
theorem dX5_save_11 : decode cX5_save 11 = .ok (.iload_n 1, 1) := by decide +kernel
theorem dX5_save_12 : decode cX5_save 12 = .ok (.aaload, 1) := by decide +kernel
theorem dX5_save_13 : decode cX5_save 13 = .ok (.aload_n 0, 1) := by decide +kernel
theorem dX5_save_14 : decode cX5_save 14 = .ok (.getfield 19, 3) := by decide +kernel
theorem dX5_save_17 : decode cX5_save 17 = .ok (.invokevirtual 160, 3) := by decide +kernel
theorem dX5_save_20 : decode cX5_save 20 = .ok (.aload_n 0, 1) := by decide +kernel
theorem dX5_save_21 : decode cX5_save 21 = .ok (.getfield 37, 3) := by decide +kernel
theorem dX5_save_24 : decode cX5_save 24 = .ok (.iload_n 1, 1) := by decide +kernel
theorem dX5_save_25 : decode cX5_save 25 = .ok (.iconst 1, 1) := by decide +kernel
theorem dX5_save_26 : decode cX5_save 26 = .ok (.bastore, 1) := by decide +kernel
theorem dX5_save_27 : decode cX5_save 27 = .ok (.aload_n 0, 1) := by decide +kernel
theorem dX5_save_28 : decode cX5_save 28 = .ok (.getfield 19, 3) := by decide +kernel
theorem dX5_save_31 : decode cX5_save 31 = .ok (.getfield 95, 3) := by decide +kernel
theorem dX5_save_34 : decode cX5_save 34 = .ok (.ireturn, 1) := by decide +kernel
theorem dX5_restore_0 : decode cX5_restore 0 = .ok (.iload_n 1, 1) := by decide +kernel
theorem dX5_restore_1 : decode cX5_restore 1 = .ok (.invokestatic 207, 3) := by decide +kernel
theorem dX5_restore_4 : decode cX5_restore 4 = .ok (.invokestatic 88, 3) := by decide +kernel
theorem dX5_restore_7 : decode cX5_restore 7 = .ok (.aload_n 0, 1) := by decide +kernel
theorem dX5_restore_8 : decode cX5_restore 8 = .ok (.getfield 37, 3) := by decide +kernel
theorem dX5_restore_11 : decode cX5_restore 11 = .ok (.iload_n 1, 1) := by decide +kernel
theorem dX5_restore_12 : decode cX5_restore 12 = .ok (.baload, 1) := by decide +kernel
theorem dX5_restore_13 : decode cX5_restore 13 = .ok (.invokestatic 53, 3) := by decide +kernel
theorem dX5_restore_16 : decode cX5_restore 16 = .ok (.aload_n 0, 1) := by decide +kernel
theorem dX5_restore_17 : decode cX5_restore 17 = .ok (.getfield 19, 3) := by decide +kernel
theorem dX5_restore_20 : decode cX5_restore 20 = .ok (.aload_n 0, 1) := by decide +kernel
theorem dX5_restore_21 : decode cX5_restore 21 = .ok (.getfield 33, 3) := by decide +kernel
theorem dX5_restore_24 : decode cX5_restore 24 = .ok (.iload_n 1, 1) := by decide +kernel
theorem dX5_restore_25 : decode cX5_restore 25 = .ok (.aaload, 1) := by decide +kernel
theorem dX5_restore_26 : decode cX5_restore 26 = .ok (.invokevirtual 160, 3) := by decide +kernel
theorem dX5_restore_29 : decode cX5_restore 29 = .ok (.aload_n 0, 1) := by decide +kernel
theorem dX5_restore_30 : decode cX5_restore 30 = .ok (.getfield 29, 3) := by decide +kernel
theorem dX5_restore_33 : decode cX5_restore 33 = .ok (.invokevirtual 70, 3) := by decide +kernel
theorem dX5_restore_36 : decode cX5_restore 36 = .ok (.aload_n 0, 1) := by decide +kernel
theorem dX5_restore_37 : decode cX5_restore 37 = .ok (.getfield 19, 3) := by decide +kernel
theorem dX5_restore_40 : decode cX5_restore 40 = .ok (.getfield 95, 3) := by decide +kernel
theorem dX5_restore_43 : decode cX5_restore 43 = .ok (.ireturn, 1) := by decide +kernel
theorem dX5_act_0 : decode cX5_act 0 = .ok (.aload_n 0, 1) := by decide +kernel
theorem dX5_act_1 : decode cX5_act 1 = .ok (.getfield 19, 3) := by decide +kernel
theorem dX5_act_4 : decode cX5_act 4 = .ok (.iload_n 1, 1) := by decide +kernel
theorem dX5_act_5 : decode cX5_act 5 = .ok (.iload_n 2, 1) := by decide +kernel
theorem dX5_act_6 : decode cX5_act 6 = .ok (.iload_n 3, 1) := by decide +kernel
theorem dX5_act_7 : decode cX5_act 7 = .ok (.iload 4, 2) := by decide +kernel
theorem dX5_act_9 : decode cX5_act 9 = .ok (.invokevirtual 210, 3) := by decide +kernel
theorem dX5_act_12 : decode cX5_act 12 = .ok (.astore 5, 2) := by decide +kernel
theorem dX5_act_14 : decode cX5_act 14 = .ok (.aload 5, 2) := by decide +kernel
theorem dX5_act_16 : decode cX5_act 16 = .ok (.getstatic 214, 3) := by decide +kernel
theorem dX5_act_19 : decode cX5_act 19 = .ok (.if_acmp .eq 7, 3) := by decide +kernel
theorem dX5_act_22 : decode cX5_act 22 = .ok (.iconst 1, 1) := by decide +kernel
theorem dX5_act_23 : decode cX5_act 23 = .ok (.goto 4, 3) := by decide +kernel
theorem dX5_act_26 : decode cX5_act 26 = .ok (.iconst 0, 1) := by decide +kernel
theorem dX5_act_27 : decode cX5_act 27 = .ok (.invokestatic 88, 3) := by decide +kernel
theorem dX5_act_30 : decode cX5_act 30 = .ok (.aload 5, 2) := by decide +kernel
theorem dX5_act_32 : decode cX5_act 32 = .ok (.getstatic 220, 3) := by decide +kernel
theorem dX5_act_35 : decode cX5_act 35 = .ok (.if_acmp .eq 7, 3) := by decide +kernel
theorem dX5_act_38 : decode cX5_act 38 = .ok (.iconst 1, 1) := by decide +kernel
theorem dX5_act_39 : decode cX5_act 39 = .ok (.goto 4, 3) := by decide +kernel
theorem dX5_act_42 : decode cX5_act 42 = .ok (.iconst 0, 1) := by decide +kernel
theorem dX5_act_43 : decode cX5_act 43 = .ok (.invokestatic 45, 3) := by decide +kernel
theorem dX5_act_46 : decode cX5_act 46 = .ok (.aload 5, 2) := by decide +kernel
theorem dX5_act_48 : decode cX5_act 48 = .ok (.getstatic 223, 3) := by decide +kernel
theorem dX5_act_51 : decode cX5_act 51 = .ok (.if_acmp .eq 7, 3) := by decide +kernel
theorem dX5_act_54 : decode cX5_act 54 = .ok (.iconst 1, 1) := by decide +kernel
theorem dX5_act_55 : decode cX5_act 55 = .ok (.goto 4, 3) := by decide +kernel
theorem dX5_act_58 : decode cX5_act 58 = .ok (.iconst 0, 1) := by decide +kernel
theorem dX5_act_59 : decode cX5_act 59 = .ok (.invokestatic 53, 3) := by decide +kernel
theorem dX5_act_62 : decode cX5_act 62 = .ok (.aload_n 0, 1) := by decide +kernel
theorem dX5_act_63 : decode cX5_act 63 = .ok (.getfield 29, 3) := by decide +kernel
theorem dX5_act_66 : decode cX5_act 66 = .ok (.aload_n 0, 1) := by decide +kernel
theorem dX5_act_67 : decode cX5_act 67 = .ok (.getfield 19, 3) := by decide +kernel
theorem dX5_act_70 : decode cX5_act 70 = .ok (.invokevirtual 226, 3) := by decide +kernel
theorem dX5_act_73 : decode cX5_act 73 = .ok (.aload_n 0, 1) := by decide +kernel
theorem dX5_act_74 : decode cX5_act 74 = .ok (.getfield 19, 3) := by decide +kernel
theorem dX5_act_77 : decode cX5_act 77 = .ok (.iload_n 1, 1) := by decide +kernel
theorem dX5_act_78 : decode cX5_act 78 = .ok (.iload_n 2, 1) := by decide +kernel
theorem dX5_act_79 : decode cX5_act 79 = .ok (.iload_n 3, 1) := by decide +kernel
theorem dX5_act_80 : decode cX5_act 80 = .ok (.iload 4, 2) := by decide +kernel
theorem dX5_act_82 : decode cX5_act 82 = .ok (.invokevirtual 229, 3) := by decide +kernel
theorem dX5_act_85 : decode cX5_act 85 = .ok (.ireturn, 1) := by decide +kernel
theorem dX5_tellEachStreet_0 : decode cX5_tellEachStreet 0 = .ok (.iconst 0, 1) := by decide +kernel
theorem dX5_tellEachStreet_1 : decode cX5_tellEachStreet 1 = .ok (.istore_n 1, 1) := by decide +kernel
theorem dX5_tellEachStreet_2 : decode cX5_tellEachStreet 2 = .ok (.iload_n 0, 1) := by decide +kernel
theorem dX5_tellEachStreet_3 : decode cX5_tellEachStreet 3 = .ok (.istore_n 2, 1) := by decide +kernel
theorem dX5_tellEachStreet_4 : decode cX5_tellEachStreet 4 = .ok (.iconst 0, 1) := by decide +kernel
theorem dX5_tellEachStreet_5 : decode cX5_tellEachStreet 5 = .ok (.istore_n 3, 1) := by decide +kernel
theorem dX5_tellEachStreet_6 : decode cX5_tellEachStreet 6 = .ok (.iload_n 3, 1) := by decide +kernel
theorem dX5_tellEachStreet_7 : decode cX5_tellEachStreet 7 = .ok (.iconst 4, 1) := by decide +kernel
theorem dX5_tellEachStreet_8 : decode cX5_tellEachStreet 8 = .ok (.if_icmp .ge 21, 3) := by decide +kernel
theorem dX5_tellEachStreet_11 : decode cX5_tellEachStreet 11 = .ok (.iload_n 1, 1) := by decide +kernel
theorem dX5_tellEachStreet_12 : decode cX5_tellEachStreet 12 = .ok (.iconst 1, 1) := by decide +kernel
theorem dX5_tellEachStreet_13 : decode cX5_tellEachStreet 13 = .ok (.iload_n 2, 1) := by decide +kernel
theorem dX5_tellEachStreet_14 : decode cX5_tellEachStreet 14 = .ok (.iconst 4, 1) := by decide +kernel
theorem dX5_tellEachStreet_15 : decode cX5_tellEachStreet 15 = .ok (.irem, 1) := by decide +kernel
theorem dX5_tellEachStreet_16 : decode cX5_tellEachStreet 16 = .ok (.ishl, 1) := by decide +kernel
theorem dX5_tellEachStreet_17 : decode cX5_tellEachStreet 17 = .ok (.ior, 1) := by decide +kernel
theorem dX5_tellEachStreet_18 : decode cX5_tellEachStreet 18 = .ok (.istore_n 1, 1) := by decide +kernel
theorem dX5_tellEachStreet_19 : decode cX5_tellEachStreet 19 = .ok (.iload_n 2, 1) := by decide +kernel
theorem dX5_tellEachStreet_20 : decode cX5_tellEachStreet 20 = .ok (.iconst 4, 1) := by decide +kernel
theorem dX5_tellEachStreet_21 : decode cX5_tellEachStreet 21 = .ok (.idiv, 1) := by decide +kernel
theorem dX5_tellEachStreet_22 : decode cX5_tellEachStreet 22 = .ok (.istore_n 2, 1) := by decide +kernel
theorem dX5_tellEachStreet_23 : decode cX5_tellEachStreet 23 = .ok (.iinc 3 1, 3) := by decide +kernel
theorem dX5_tellEachStreet_26 : decode cX5_tellEachStreet 26 = .ok (.goto (-20), 3) := by decide +kernel
theorem dX5_tellEachStreet_29 : decode cX5_tellEachStreet 29 = .ok (.iload_n 1, 1) := by decide +kernel
theorem dX5_tellEachStreet_30 : decode cX5_tellEachStreet 30 = .ok (.bipush 15, 2) := by decide +kernel
theorem dX5_tellEachStreet_32 : decode cX5_tellEachStreet 32 = .ok (.if_icmp .ne 7, 3) := by decide +kernel
theorem dX5_tellEachStreet_35 : decode cX5_tellEachStreet 35 = .ok (.iconst 1, 1) := by decide +kernel
theorem dX5_tellEachStreet_36 : decode cX5_tellEachStreet 36 = .ok (.goto 4, 3) := by decide +kernel
theorem dX5_tellEachStreet_39 : decode cX5_tellEachStreet 39 = .ok (.iconst 0, 1) := by decide +kernel
theorem dX5_tellEachStreet_40 : decode cX5_tellEachStreet 40 = .ok (.ireturn, 1) := by decide +kernel
theorem dX5_groupOf_0 : decode cX5_groupOf 0 = .ok (.lload_n 0, 1) := by decide +kernel
theorem dX5_groupOf_1 : decode cX5_groupOf 1 = .ok (.lstore_n 3, 1) := by decide +kernel
theorem dX5_groupOf_2 : decode cX5_groupOf 2 = .ok (.iconst 0, 1) := by decide +kernel
theorem dX5_groupOf_3 : decode cX5_groupOf 3 = .ok (.istore 5, 2) := by decide +kernel
theorem dX5_groupOf_5 : decode cX5_groupOf 5 = .ok (.iload 5, 2) := by decide +kernel
theorem dX5_groupOf_7 : decode cX5_groupOf 7 = .ok (.iload_n 2, 1) := by decide +kernel
theorem dX5_groupOf_8 : decode cX5_groupOf 8 = .ok (.if_icmp .ge 15, 3) := by decide +kernel
theorem dX5_groupOf_11 : decode cX5_groupOf 11 = .ok (.lload_n 3, 1) := by decide +kernel
theorem dX5_groupOf_12 : decode cX5_groupOf 12 = .ok (.ldc2_w 191, 3) := by decide +kernel
theorem dX5_groupOf_15 : decode cX5_groupOf 15 = .ok (.ldiv, 1) := by decide +kernel
theorem dX5_groupOf_16 : decode cX5_groupOf 16 = .ok (.lstore_n 3, 1) := by decide +kernel
theorem dX5_groupOf_17 : decode cX5_groupOf 17 = .ok (.iinc 5 1, 3) := by decide +kernel
theorem dX5_groupOf_20 : decode cX5_groupOf 20 = .ok (.goto (-15), 3) := by decide +kernel
theorem dX5_groupOf_23 : decode cX5_groupOf 23 = .ok (.lload_n 3, 1) := by decide +kernel
theorem dX5_groupOf_24 : decode cX5_groupOf 24 = .ok (.ldc2_w 191, 3) := by decide +kernel
theorem dX5_groupOf_27 : decode cX5_groupOf 27 = .ok (.lrem, 1) := by decide +kernel
theorem dX5_groupOf_28 : decode cX5_groupOf 28 = .ok (.l2i, 1) := by decide +kernel
theorem dX5_groupOf_29 : decode cX5_groupOf 29 = .ok (.ireturn, 1) := by decide +kernel
theorem dX5_succeeds_0 : decode cX5_succeeds 0 = .ok (.iload_n 1, 1) := by decide +kernel
theorem dX5_succeeds_1 : decode cX5_succeeds 1 = .ok (.sipush 10000, 3) := by decide +kernel
theorem dX5_succeeds_4 : decode cX5_succeeds 4 = .ok (.idiv, 1) := by decide +kernel
theorem dX5_succeeds_5 : decode cX5_succeeds 5 = .ok (.bipush 10, 2) := by decide +kernel
theorem dX5_succeeds_7 : decode cX5_succeeds 7 = .ok (.irem, 1) := by decide +kernel
theorem dX5_succeeds_8 : decode cX5_succeeds 8 = .ok (.istore_n 2, 1) := by decide +kernel
theorem dX5_succeeds_9 : decode cX5_succeeds 9 = .ok (.iload_n 1, 1) := by decide +kernel
theorem dX5_succeeds_10 : decode cX5_succeeds 10 = .ok (.sipush 1000, 3) := by decide +kernel
theorem dX5_succeeds_13 : decode cX5_succeeds 13 = .ok (.idiv, 1) := by decide +kernel
theorem dX5_succeeds_14 : decode cX5_succeeds 14 = .ok (.bipush 10, 2) := by decide +kernel
theorem dX5_succeeds_16 : decode cX5_succeeds 16 = .ok (.irem, 1) := by decide +kernel
theorem dX5_succeeds_17 : decode cX5_succeeds 17 = .ok (.istore_n 3, 1) := by decide +kernel
theorem dX5_succeeds_18 : decode cX5_succeeds 18 = .ok (.iload_n 1, 1) := by decide +kernel
theorem dX5_succeeds_19 : decode cX5_succeeds 19 = .ok (.bipush 100, 2) := by decide +kernel
theorem dX5_succeeds_21 : decode cX5_succeeds 21 = .ok (.idiv, 1) := by decide +kernel
theorem dX5_succeeds_22 : decode cX5_succeeds 22 = .ok (.bipush 100, 2) := by decide +kernel
theorem dX5_succeeds_24 : decode cX5_succeeds 24 = .ok (.irem, 1) := by decide +kernel
theorem dX5_succeeds_25 : decode cX5_succeeds 25 = .ok (.istore 4, 2) := by decide +kernel
theorem dX5_succeeds_27 : decode cX5_succeeds 27 = .ok (.iload_n 1, 1) := by decide +kernel
theorem dX5_succeeds_28 : decode cX5_succeeds 28 = .ok (.bipush 10, 2) := by decide +kernel
theorem dX5_succeeds_30 : decode cX5_succeeds 30 = .ok (.irem, 1) := by decide +kernel
theorem dX5_succeeds_31 : decode cX5_succeeds 31 = .ok (.istore 5, 2) := by decide +kernel
theorem dX5_succeeds_33 : decode cX5_succeeds 33 = .ok (.iload_n 1, 1) := by decide +kernel
theorem dX5_succeeds_34 : decode cX5_succeeds 34 = .ok (.bipush 100, 2) := by decide +kernel
theorem dX5_succeeds_36 : decode cX5_succeeds 36 = .ok (.irem, 1) := by decide +kernel
theorem dX5_succeeds_37 : decode cX5_succeeds 37 = .ok (.istore 6, 2) := by decide +kernel
theorem dX5_succeeds_39 : decode cX5_succeeds 39 = .ok (.iload_n 1, 1) := by decide +kernel
theorem dX5_succeeds_40 : decode cX5_succeeds 40 = .ok (.ldc 232, 2) := by decide +kernel
theorem dX5_succeeds_42 : decode cX5_succeeds 42 = .ok (.idiv, 1) := by decide +kernel
theorem dX5_succeeds_43 : decode cX5_succeeds 43 = .ok (.tableswitch 334 1 9 #[49, 81, 111, 134, 172, 201, 229, 268, 309], 49) := by decide +kernel
theorem dX5_succeeds_92 : decode cX5_succeeds 92 = .ok (.iload_n 2, 1) := by decide +kernel
theorem dX5_succeeds_93 : decode cX5_succeeds 93 = .ok (.ifCond .ne 29, 3) := by decide +kernel
theorem dX5_succeeds_96 : decode cX5_succeeds 96 = .ok (.iload 4, 2) := by decide +kernel
theorem dX5_succeeds_98 : decode cX5_succeeds 98 = .ok (.ifCond .ne 24, 3) := by decide +kernel
theorem dX5_succeeds_101 : decode cX5_succeeds 101 = .ok (.aload_n 0, 1) := by decide +kernel
theorem dX5_succeeds_102 : decode cX5_succeeds 102 = .ok (.getfield 23, 3) := by decide +kernel
theorem dX5_succeeds_105 : decode cX5_succeeds 105 = .ok (.bipush 7, 2) := by decide +kernel
theorem dX5_succeeds_107 : decode cX5_succeeds 107 = .ok (.iload 6, 2) := by decide +kernel
theorem dX5_succeeds_109 : decode cX5_succeeds 109 = .ok (.iconst 0, 1) := by decide +kernel
theorem dX5_succeeds_110 : decode cX5_succeeds 110 = .ok (.iconst 0, 1) := by decide +kernel
theorem dX5_succeeds_111 : decode cX5_succeeds 111 = .ok (.invokevirtual 229, 3) := by decide +kernel
theorem dX5_succeeds_114 : decode cX5_succeeds 114 = .ok (.iconst (-1), 1) := by decide +kernel
theorem dX5_succeeds_115 : decode cX5_succeeds 115 = .ok (.if_icmp .eq 7, 3) := by decide +kernel
theorem dX5_succeeds_118 : decode cX5_succeeds 118 = .ok (.iconst 1, 1) := by decide +kernel
theorem dX5_succeeds_119 : decode cX5_succeeds 119 = .ok (.goto 4, 3) := by decide +kernel
theorem dX5_succeeds_122 : decode cX5_succeeds 122 = .ok (.iconst 0, 1) := by decide +kernel
theorem dX5_succeeds_123 : decode cX5_succeeds 123 = .ok (.ireturn, 1) := by decide +kernel
theorem dX5_succeeds_124 : decode cX5_succeeds 124 = .ok (.iload 6, 2) := by decide +kernel
theorem dX5_succeeds_126 : decode cX5_succeeds 126 = .ok (.ifCond .ne 26, 3) := by decide +kernel
theorem dX5_succeeds_129 : decode cX5_succeeds 129 = .ok (.aload_n 0, 1) := by decide +kernel
theorem dX5_succeeds_130 : decode cX5_succeeds 130 = .ok (.getfield 23, 3) := by decide +kernel
theorem dX5_succeeds_133 : decode cX5_succeeds 133 = .ok (.iconst 1, 1) := by decide +kernel
theorem dX5_succeeds_134 : decode cX5_succeeds 134 = .ok (.iload_n 2, 1) := by decide +kernel
theorem dX5_succeeds_135 : decode cX5_succeeds 135 = .ok (.iload_n 3, 1) := by decide +kernel
theorem dX5_succeeds_136 : decode cX5_succeeds 136 = .ok (.iload 4, 2) := by decide +kernel
theorem dX5_succeeds_138 : decode cX5_succeeds 138 = .ok (.bipush 10, 2) := by decide +kernel
theorem dX5_succeeds_140 : decode cX5_succeeds 140 = .ok (.irem, 1) := by decide +kernel
theorem dX5_succeeds_141 : decode cX5_succeeds 141 = .ok (.invokevirtual 229, 3) := by decide +kernel
theorem dX5_succeeds_144 : decode cX5_succeeds 144 = .ok (.iconst (-1), 1) := by decide +kernel
theorem dX5_succeeds_145 : decode cX5_succeeds 145 = .ok (.if_icmp .eq 7, 3) := by decide +kernel
theorem dX5_succeeds_148 : decode cX5_succeeds 148 = .ok (.iconst 1, 1) := by decide +kernel
theorem dX5_succeeds_149 : decode cX5_succeeds 149 = .ok (.goto 4, 3) := by decide +kernel
theorem dX5_succeeds_152 : decode cX5_succeeds 152 = .ok (.iconst 0, 1) := by decide +kernel
theorem dX5_succeeds_153 : decode cX5_succeeds 153 = .ok (.ireturn, 1) := by decide +kernel
theorem dX5_succeeds_154 : decode cX5_succeeds 154 = .ok (.aload_n 0, 1) := by decide +kernel
theorem dX5_succeeds_155 : decode cX5_succeeds 155 = .ok (.getfield 23, 3) := by decide +kernel
theorem dX5_succeeds_158 : decode cX5_succeeds 158 = .ok (.iconst 2, 1) := by decide +kernel
theorem dX5_succeeds_159 : decode cX5_succeeds 159 = .ok (.iload_n 2, 1) := by decide +kernel
theorem dX5_succeeds_160 : decode cX5_succeeds 160 = .ok (.iload 4, 2) := by decide +kernel
theorem dX5_succeeds_162 : decode cX5_succeeds 162 = .ok (.iload 6, 2) := by decide +kernel
theorem dX5_succeeds_164 : decode cX5_succeeds 164 = .ok (.invokevirtual 229, 3) := by decide +kernel
theorem dX5_succeeds_167 : decode cX5_succeeds 167 = .ok (.iconst (-1), 1) := by decide +kernel
theorem dX5_succeeds_168 : decode cX5_succeeds 168 = .ok (.if_icmp .eq 7, 3) := by decide +kernel
theorem dX5_succeeds_171 : decode cX5_succeeds 171 = .ok (.iconst 1, 1) := by decide +kernel
theorem dX5_succeeds_172 : decode cX5_succeeds 172 = .ok (.goto 4, 3) := by decide +kernel
theorem dX5_succeeds_175 : decode cX5_succeeds 175 = .ok (.iconst 0, 1) := by decide +kernel
theorem dX5_succeeds_176 : decode cX5_succeeds 176 = .ok (.ireturn, 1) := by decide +kernel
theorem dX5_succeeds_177 : decode cX5_succeeds 177 = .ok (.iload_n 1, 1) := by decide +kernel
theorem dX5_succeeds_178 : decode cX5_succeeds 178 = .ok (.bipush 10, 2) := by decide +kernel
theorem dX5_succeeds_180 : decode cX5_succeeds 180 = .ok (.idiv, 1) := by decide +kernel
theorem dX5_succeeds_181 : decode cX5_succeeds 181 = .ok (.bipush 100, 2) := by decide +kernel
theorem dX5_succeeds_183 : decode cX5_succeeds 183 = .ok (.irem, 1) := by decide +kernel
theorem dX5_succeeds_184 : decode cX5_succeeds 184 = .ok (.ifCond .ne 29, 3) := by decide +kernel
theorem dX5_succeeds_187 : decode cX5_succeeds 187 = .ok (.iload 5, 2) := by decide +kernel
theorem dX5_succeeds_189 : decode cX5_succeeds 189 = .ok (.iconst 1, 1) := by decide +kernel
theorem dX5_succeeds_190 : decode cX5_succeeds 190 = .ok (.if_icmp .gt 23, 3) := by decide +kernel
theorem dX5_succeeds_193 : decode cX5_succeeds 193 = .ok (.aload_n 0, 1) := by decide +kernel
theorem dX5_succeeds_194 : decode cX5_succeeds 194 = .ok (.getfield 23, 3) := by decide +kernel
theorem dX5_succeeds_197 : decode cX5_succeeds 197 = .ok (.iconst 4, 1) := by decide +kernel
theorem dX5_succeeds_198 : decode cX5_succeeds 198 = .ok (.iload_n 2, 1) := by decide +kernel
theorem dX5_succeeds_199 : decode cX5_succeeds 199 = .ok (.iload_n 3, 1) := by decide +kernel
theorem dX5_succeeds_200 : decode cX5_succeeds 200 = .ok (.iload 5, 2) := by decide +kernel
theorem dX5_succeeds_202 : decode cX5_succeeds 202 = .ok (.invokevirtual 229, 3) := by decide +kernel
theorem dX5_succeeds_205 : decode cX5_succeeds 205 = .ok (.iconst (-1), 1) := by decide +kernel
theorem dX5_succeeds_206 : decode cX5_succeeds 206 = .ok (.if_icmp .eq 7, 3) := by decide +kernel
theorem dX5_succeeds_209 : decode cX5_succeeds 209 = .ok (.iconst 1, 1) := by decide +kernel
theorem dX5_succeeds_210 : decode cX5_succeeds 210 = .ok (.goto 4, 3) := by decide +kernel
theorem dX5_succeeds_213 : decode cX5_succeeds 213 = .ok (.iconst 0, 1) := by decide +kernel
theorem dX5_succeeds_214 : decode cX5_succeeds 214 = .ok (.ireturn, 1) := by decide +kernel
theorem dX5_succeeds_215 : decode cX5_succeeds 215 = .ok (.iload_n 1, 1) := by decide +kernel
theorem dX5_succeeds_216 : decode cX5_succeeds 216 = .ok (.sipush 1000, 3) := by decide +kernel
theorem dX5_succeeds_219 : decode cX5_succeeds 219 = .ok (.irem, 1) := by decide +kernel
theorem dX5_succeeds_220 : decode cX5_succeeds 220 = .ok (.ifCond .ne 22, 3) := by decide +kernel
theorem dX5_succeeds_223 : decode cX5_succeeds 223 = .ok (.aload_n 0, 1) := by decide +kernel
theorem dX5_succeeds_224 : decode cX5_succeeds 224 = .ok (.getfield 23, 3) := by decide +kernel
theorem dX5_succeeds_227 : decode cX5_succeeds 227 = .ok (.iconst 5, 1) := by decide +kernel
theorem dX5_succeeds_228 : decode cX5_succeeds 228 = .ok (.iload_n 2, 1) := by decide +kernel
theorem dX5_succeeds_229 : decode cX5_succeeds 229 = .ok (.iload_n 3, 1) := by decide +kernel
theorem dX5_succeeds_230 : decode cX5_succeeds 230 = .ok (.iconst 0, 1) := by decide +kernel
theorem dX5_succeeds_231 : decode cX5_succeeds 231 = .ok (.invokevirtual 229, 3) := by decide +kernel
theorem dX5_succeeds_234 : decode cX5_succeeds 234 = .ok (.iconst (-1), 1) := by decide +kernel
theorem dX5_succeeds_235 : decode cX5_succeeds 235 = .ok (.if_icmp .eq 7, 3) := by decide +kernel
theorem dX5_succeeds_238 : decode cX5_succeeds 238 = .ok (.iconst 1, 1) := by decide +kernel
theorem dX5_succeeds_239 : decode cX5_succeeds 239 = .ok (.goto 4, 3) := by decide +kernel
theorem dX5_succeeds_242 : decode cX5_succeeds 242 = .ok (.iconst 0, 1) := by decide +kernel
theorem dX5_succeeds_243 : decode cX5_succeeds 243 = .ok (.ireturn, 1) := by decide +kernel
theorem dX5_succeeds_244 : decode cX5_succeeds 244 = .ok (.iload 4, 2) := by decide +kernel
theorem dX5_succeeds_246 : decode cX5_succeeds 246 = .ok (.ifCond .ne 24, 3) := by decide +kernel
theorem dX5_succeeds_249 : decode cX5_succeeds 249 = .ok (.aload_n 0, 1) := by decide +kernel
theorem dX5_succeeds_250 : decode cX5_succeeds 250 = .ok (.getfield 23, 3) := by decide +kernel
theorem dX5_succeeds_253 : decode cX5_succeeds 253 = .ok (.bipush 6, 2) := by decide +kernel
theorem dX5_succeeds_255 : decode cX5_succeeds 255 = .ok (.iload_n 2, 1) := by decide +kernel
theorem dX5_succeeds_256 : decode cX5_succeeds 256 = .ok (.iload 6, 2) := by decide +kernel
theorem dX5_succeeds_258 : decode cX5_succeeds 258 = .ok (.iconst 0, 1) := by decide +kernel
theorem dX5_succeeds_259 : decode cX5_succeeds 259 = .ok (.invokevirtual 229, 3) := by decide +kernel
theorem dX5_succeeds_262 : decode cX5_succeeds 262 = .ok (.iconst (-1), 1) := by decide +kernel
theorem dX5_succeeds_263 : decode cX5_succeeds 263 = .ok (.if_icmp .eq 7, 3) := by decide +kernel
theorem dX5_succeeds_266 : decode cX5_succeeds 266 = .ok (.iconst 1, 1) := by decide +kernel
theorem dX5_succeeds_267 : decode cX5_succeeds 267 = .ok (.goto 4, 3) := by decide +kernel
theorem dX5_succeeds_270 : decode cX5_succeeds 270 = .ok (.iconst 0, 1) := by decide +kernel
theorem dX5_succeeds_271 : decode cX5_succeeds 271 = .ok (.ireturn, 1) := by decide +kernel
theorem dX5_succeeds_272 : decode cX5_succeeds 272 = .ok (.iload 4, 2) := by decide +kernel
theorem dX5_succeeds_274 : decode cX5_succeeds 274 = .ok (.ifCond .ne 35, 3) := by decide +kernel
theorem dX5_succeeds_277 : decode cX5_succeeds 277 = .ok (.aload_n 0, 1) := by decide +kernel
theorem dX5_succeeds_278 : decode cX5_succeeds 278 = .ok (.getfield 23, 3) := by decide +kernel
theorem dX5_succeeds_281 : decode cX5_succeeds 281 = .ok (.iload_n 2, 1) := by decide +kernel
theorem dX5_succeeds_282 : decode cX5_succeeds 282 = .ok (.invokevirtual 84, 3) := by decide +kernel
theorem dX5_succeeds_285 : decode cX5_succeeds 285 = .ok (.ifCond .eq 24, 3) := by decide +kernel
theorem dX5_succeeds_288 : decode cX5_succeeds 288 = .ok (.aload_n 0, 1) := by decide +kernel
theorem dX5_succeeds_289 : decode cX5_succeeds 289 = .ok (.getfield 23, 3) := by decide +kernel
theorem dX5_succeeds_292 : decode cX5_succeeds 292 = .ok (.getfield 91, 3) := by decide +kernel
theorem dX5_succeeds_295 : decode cX5_succeeds 295 = .ok (.iload_n 2, 1) := by decide +kernel
theorem dX5_succeeds_296 : decode cX5_succeeds 296 = .ok (.aaload, 1) := by decide +kernel
theorem dX5_succeeds_297 : decode cX5_succeeds 297 = .ok (.getfield 167, 3) := by decide +kernel
theorem dX5_succeeds_300 : decode cX5_succeeds 300 = .ok (.iload 6, 2) := by decide +kernel
theorem dX5_succeeds_302 : decode cX5_succeeds 302 = .ok (.if_icmp .gt 7, 3) := by decide +kernel
theorem dX5_succeeds_305 : decode cX5_succeeds 305 = .ok (.iconst 1, 1) := by decide +kernel
theorem dX5_succeeds_306 : decode cX5_succeeds 306 = .ok (.goto 4, 3) := by decide +kernel
theorem dX5_succeeds_309 : decode cX5_succeeds 309 = .ok (.iconst 0, 1) := by decide +kernel
theorem dX5_succeeds_310 : decode cX5_succeeds 310 = .ok (.ireturn, 1) := by decide +kernel
theorem dX5_succeeds_311 : decode cX5_succeeds 311 = .ok (.iload_n 1, 1) := by decide +kernel
theorem dX5_succeeds_312 : decode cX5_succeeds 312 = .ok (.bipush 10, 2) := by decide +kernel
theorem dX5_succeeds_314 : decode cX5_succeeds 314 = .ok (.idiv, 1) := by decide +kernel
theorem dX5_succeeds_315 : decode cX5_succeeds 315 = .ok (.sipush 1000, 3) := by decide +kernel
theorem dX5_succeeds_318 : decode cX5_succeeds 318 = .ok (.irem, 1) := by decide +kernel
theorem dX5_succeeds_319 : decode cX5_succeeds 319 = .ok (.ifCond .ne 31, 3) := by decide +kernel
theorem dX5_succeeds_322 : decode cX5_succeeds 322 = .ok (.aload_n 0, 1) := by decide +kernel
theorem dX5_succeeds_323 : decode cX5_succeeds 323 = .ok (.getfield 23, 3) := by decide +kernel
theorem dX5_succeeds_326 : decode cX5_succeeds 326 = .ok (.iload_n 2, 1) := by decide +kernel
theorem dX5_succeeds_327 : decode cX5_succeeds 327 = .ok (.invokevirtual 84, 3) := by decide +kernel
theorem dX5_succeeds_330 : decode cX5_succeeds 330 = .ok (.ifCond .eq 20, 3) := by decide +kernel
theorem dX5_succeeds_333 : decode cX5_succeeds 333 = .ok (.aload_n 0, 1) := by decide +kernel
theorem dX5_succeeds_334 : decode cX5_succeeds 334 = .ok (.getfield 23, 3) := by decide +kernel
theorem dX5_succeeds_337 : decode cX5_succeeds 337 = .ok (.iload_n 2, 1) := by decide +kernel
theorem dX5_succeeds_338 : decode cX5_succeeds 338 = .ok (.invokevirtual 157, 3) := by decide +kernel
theorem dX5_succeeds_341 : decode cX5_succeeds 341 = .ok (.iload 5, 2) := by decide +kernel
theorem dX5_succeeds_343 : decode cX5_succeeds 343 = .ok (.if_icmp .ne 7, 3) := by decide +kernel
theorem dX5_succeeds_346 : decode cX5_succeeds 346 = .ok (.iconst 1, 1) := by decide +kernel
theorem dX5_succeeds_347 : decode cX5_succeeds 347 = .ok (.goto 4, 3) := by decide +kernel
theorem dX5_succeeds_350 : decode cX5_succeeds 350 = .ok (.iconst 0, 1) := by decide +kernel
theorem dX5_succeeds_351 : decode cX5_succeeds 351 = .ok (.ireturn, 1) := by decide +kernel
theorem dX5_succeeds_352 : decode cX5_succeeds 352 = .ok (.iload_n 2, 1) := by decide +kernel
theorem dX5_succeeds_353 : decode cX5_succeeds 353 = .ok (.ifCond .ne 22, 3) := by decide +kernel
theorem dX5_succeeds_356 : decode cX5_succeeds 356 = .ok (.aload_n 0, 1) := by decide +kernel
theorem dX5_succeeds_357 : decode cX5_succeeds 357 = .ok (.getfield 23, 3) := by decide +kernel
theorem dX5_succeeds_360 : decode cX5_succeeds 360 = .ok (.invokevirtual 233, 3) := by decide +kernel
theorem dX5_succeeds_363 : decode cX5_succeeds 363 = .ok (.iload_n 1, 1) := by decide +kernel
theorem dX5_succeeds_364 : decode cX5_succeeds 364 = .ok (.sipush 10000, 3) := by decide +kernel
theorem dX5_succeeds_367 : decode cX5_succeeds 367 = .ok (.irem, 1) := by decide +kernel
theorem dX5_succeeds_368 : decode cX5_succeeds 368 = .ok (.if_icmp .lt 7, 3) := by decide +kernel
theorem dX5_succeeds_371 : decode cX5_succeeds 371 = .ok (.iconst 1, 1) := by decide +kernel
theorem dX5_succeeds_372 : decode cX5_succeeds 372 = .ok (.goto 4, 3) := by decide +kernel
theorem dX5_succeeds_375 : decode cX5_succeeds 375 = .ok (.iconst 0, 1) := by decide +kernel
theorem dX5_succeeds_376 : decode cX5_succeeds 376 = .ok (.ireturn, 1) := by decide +kernel
theorem dX5_succeeds_377 : decode cX5_succeeds 377 = .ok (.iconst 0, 1) := by decide +kernel
theorem dX5_succeeds_378 : decode cX5_succeeds 378 = .ok (.ireturn, 1) := by decide +kernel
theorem dX5_takeTurn_0 : decode cX5_takeTurn 0 = .ok (.iload_n 1, 1) := by decide +kernel
theorem dX5_takeTurn_1 : decode cX5_takeTurn 1 = .ok (.bipush 8, 2) := by decide +kernel
theorem dX5_takeTurn_3 : decode cX5_takeTurn 3 = .ok (.idiv, 1) := by decide +kernel
theorem dX5_takeTurn_4 : decode cX5_takeTurn 4 = .ok (.istore_n 2, 1) := by decide +kernel
theorem dX5_takeTurn_5 : decode cX5_takeTurn 5 = .ok (.iload_n 1, 1) := by decide +kernel
theorem dX5_takeTurn_6 : decode cX5_takeTurn 6 = .ok (.bipush 8, 2) := by decide +kernel
theorem dX5_takeTurn_8 : decode cX5_takeTurn 8 = .ok (.irem, 1) := by decide +kernel
theorem dX5_takeTurn_9 : decode cX5_takeTurn 9 = .ok (.tableswitch 245 0 5 #[39, 61, 92, 135, 170, 191], 39) := by decide +kernel
theorem dX5_takeTurn_48 : decode cX5_takeTurn 48 = .ok (.aload_n 0, 1) := by decide +kernel
theorem dX5_takeTurn_49 : decode cX5_takeTurn 49 = .ok (.getfield 23, 3) := by decide +kernel
theorem dX5_takeTurn_52 : decode cX5_takeTurn 52 = .ok (.iconst 0, 1) := by decide +kernel
theorem dX5_takeTurn_53 : decode cX5_takeTurn 53 = .ok (.iload_n 2, 1) := by decide +kernel
theorem dX5_takeTurn_54 : decode cX5_takeTurn 54 = .ok (.iconst 4, 1) := by decide +kernel
theorem dX5_takeTurn_55 : decode cX5_takeTurn 55 = .ok (.irem, 1) := by decide +kernel
theorem dX5_takeTurn_56 : decode cX5_takeTurn 56 = .ok (.iload_n 2, 1) := by decide +kernel
theorem dX5_takeTurn_57 : decode cX5_takeTurn 57 = .ok (.iconst 4, 1) := by decide +kernel
theorem dX5_takeTurn_58 : decode cX5_takeTurn 58 = .ok (.idiv, 1) := by decide +kernel
theorem dX5_takeTurn_59 : decode cX5_takeTurn 59 = .ok (.ldc 236, 2) := by decide +kernel
theorem dX5_takeTurn_61 : decode cX5_takeTurn 61 = .ok (.irem, 1) := by decide +kernel
theorem dX5_takeTurn_62 : decode cX5_takeTurn 62 = .ok (.iconst 0, 1) := by decide +kernel
theorem dX5_takeTurn_63 : decode cX5_takeTurn 63 = .ok (.invokevirtual 229, 3) := by decide +kernel
theorem dX5_takeTurn_66 : decode cX5_takeTurn 66 = .ok (.pop, 1) := by decide +kernel
theorem dX5_takeTurn_67 : decode cX5_takeTurn 67 = .ok (.goto 205, 3) := by decide +kernel
theorem dX5_takeTurn_70 : decode cX5_takeTurn 70 = .ok (.aload_n 0, 1) := by decide +kernel
theorem dX5_takeTurn_71 : decode cX5_takeTurn 71 = .ok (.getfield 23, 3) := by decide +kernel
theorem dX5_takeTurn_74 : decode cX5_takeTurn 74 = .ok (.iconst 1, 1) := by decide +kernel
theorem dX5_takeTurn_75 : decode cX5_takeTurn 75 = .ok (.iload_n 2, 1) := by decide +kernel
theorem dX5_takeTurn_76 : decode cX5_takeTurn 76 = .ok (.bipush 10, 2) := by decide +kernel
theorem dX5_takeTurn_78 : decode cX5_takeTurn 78 = .ok (.irem, 1) := by decide +kernel
theorem dX5_takeTurn_79 : decode cX5_takeTurn 79 = .ok (.iload_n 2, 1) := by decide +kernel
theorem dX5_takeTurn_80 : decode cX5_takeTurn 80 = .ok (.bipush 16, 2) := by decide +kernel
theorem dX5_takeTurn_82 : decode cX5_takeTurn 82 = .ok (.idiv, 1) := by decide +kernel
theorem dX5_takeTurn_83 : decode cX5_takeTurn 83 = .ok (.bipush 7, 2) := by decide +kernel
theorem dX5_takeTurn_85 : decode cX5_takeTurn 85 = .ok (.irem, 1) := by decide +kernel
theorem dX5_takeTurn_86 : decode cX5_takeTurn 86 = .ok (.iload_n 2, 1) := by decide +kernel
theorem dX5_takeTurn_87 : decode cX5_takeTurn 87 = .ok (.sipush 128, 3) := by decide +kernel
theorem dX5_takeTurn_90 : decode cX5_takeTurn 90 = .ok (.idiv, 1) := by decide +kernel
theorem dX5_takeTurn_91 : decode cX5_takeTurn 91 = .ok (.bipush 10, 2) := by decide +kernel
theorem dX5_takeTurn_93 : decode cX5_takeTurn 93 = .ok (.irem, 1) := by decide +kernel
theorem dX5_takeTurn_94 : decode cX5_takeTurn 94 = .ok (.invokevirtual 229, 3) := by decide +kernel
theorem dX5_takeTurn_97 : decode cX5_takeTurn 97 = .ok (.pop, 1) := by decide +kernel
theorem dX5_takeTurn_98 : decode cX5_takeTurn 98 = .ok (.goto 174, 3) := by decide +kernel
theorem dX5_takeTurn_101 : decode cX5_takeTurn 101 = .ok (.aload_n 0, 1) := by decide +kernel
theorem dX5_takeTurn_102 : decode cX5_takeTurn 102 = .ok (.getfield 23, 3) := by decide +kernel
theorem dX5_takeTurn_105 : decode cX5_takeTurn 105 = .ok (.getfield 95, 3) := by decide +kernel
theorem dX5_takeTurn_108 : decode cX5_takeTurn 108 = .ok (.iload_n 2, 1) := by decide +kernel
theorem dX5_takeTurn_109 : decode cX5_takeTurn 109 = .ok (.bipush 16, 2) := by decide +kernel
theorem dX5_takeTurn_111 : decode cX5_takeTurn 111 = .ok (.idiv, 1) := by decide +kernel
theorem dX5_takeTurn_112 : decode cX5_takeTurn 112 = .ok (.bipush 20, 2) := by decide +kernel
theorem dX5_takeTurn_114 : decode cX5_takeTurn 114 = .ok (.irem, 1) := by decide +kernel
theorem dX5_takeTurn_115 : decode cX5_takeTurn 115 = .ok (.iadd, 1) := by decide +kernel
theorem dX5_takeTurn_116 : decode cX5_takeTurn 116 = .ok (.istore_n 3, 1) := by decide +kernel
theorem dX5_takeTurn_117 : decode cX5_takeTurn 117 = .ok (.aload_n 0, 1) := by decide +kernel
theorem dX5_takeTurn_118 : decode cX5_takeTurn 118 = .ok (.getfield 23, 3) := by decide +kernel
theorem dX5_takeTurn_121 : decode cX5_takeTurn 121 = .ok (.iconst 2, 1) := by decide +kernel
theorem dX5_takeTurn_122 : decode cX5_takeTurn 122 = .ok (.iload_n 2, 1) := by decide +kernel
theorem dX5_takeTurn_123 : decode cX5_takeTurn 123 = .ok (.bipush 10, 2) := by decide +kernel
theorem dX5_takeTurn_125 : decode cX5_takeTurn 125 = .ok (.irem, 1) := by decide +kernel
theorem dX5_takeTurn_126 : decode cX5_takeTurn 126 = .ok (.iload_n 3, 1) := by decide +kernel
theorem dX5_takeTurn_127 : decode cX5_takeTurn 127 = .ok (.iload_n 3, 1) := by decide +kernel
theorem dX5_takeTurn_128 : decode cX5_takeTurn 128 = .ok (.iload_n 2, 1) := by decide +kernel
theorem dX5_takeTurn_129 : decode cX5_takeTurn 129 = .ok (.sipush 512, 3) := by decide +kernel
theorem dX5_takeTurn_132 : decode cX5_takeTurn 132 = .ok (.idiv, 1) := by decide +kernel
theorem dX5_takeTurn_133 : decode cX5_takeTurn 133 = .ok (.bipush 9, 2) := by decide +kernel
theorem dX5_takeTurn_135 : decode cX5_takeTurn 135 = .ok (.irem, 1) := by decide +kernel
theorem dX5_takeTurn_136 : decode cX5_takeTurn 136 = .ok (.iadd, 1) := by decide +kernel
theorem dX5_takeTurn_137 : decode cX5_takeTurn 137 = .ok (.invokevirtual 229, 3) := by decide +kernel
theorem dX5_takeTurn_140 : decode cX5_takeTurn 140 = .ok (.pop, 1) := by decide +kernel
theorem dX5_takeTurn_141 : decode cX5_takeTurn 141 = .ok (.goto 131, 3) := by decide +kernel
theorem dX5_takeTurn_144 : decode cX5_takeTurn 144 = .ok (.aload_n 0, 1) := by decide +kernel
theorem dX5_takeTurn_145 : decode cX5_takeTurn 145 = .ok (.getfield 23, 3) := by decide +kernel
theorem dX5_takeTurn_148 : decode cX5_takeTurn 148 = .ok (.iconst 4, 1) := by decide +kernel
theorem dX5_takeTurn_149 : decode cX5_takeTurn 149 = .ok (.iload_n 2, 1) := by decide +kernel
theorem dX5_takeTurn_150 : decode cX5_takeTurn 150 = .ok (.iconst 4, 1) := by decide +kernel
theorem dX5_takeTurn_151 : decode cX5_takeTurn 151 = .ok (.irem, 1) := by decide +kernel
theorem dX5_takeTurn_152 : decode cX5_takeTurn 152 = .ok (.iload_n 2, 1) := by decide +kernel
theorem dX5_takeTurn_153 : decode cX5_takeTurn 153 = .ok (.iconst 4, 1) := by decide +kernel
theorem dX5_takeTurn_154 : decode cX5_takeTurn 154 = .ok (.idiv, 1) := by decide +kernel
theorem dX5_takeTurn_155 : decode cX5_takeTurn 155 = .ok (.bipush 7, 2) := by decide +kernel
theorem dX5_takeTurn_157 : decode cX5_takeTurn 157 = .ok (.irem, 1) := by decide +kernel
theorem dX5_takeTurn_158 : decode cX5_takeTurn 158 = .ok (.iload_n 2, 1) := by decide +kernel
theorem dX5_takeTurn_159 : decode cX5_takeTurn 159 = .ok (.bipush 32, 2) := by decide +kernel
theorem dX5_takeTurn_161 : decode cX5_takeTurn 161 = .ok (.idiv, 1) := by decide +kernel
theorem dX5_takeTurn_162 : decode cX5_takeTurn 162 = .ok (.iconst 3, 1) := by decide +kernel
theorem dX5_takeTurn_163 : decode cX5_takeTurn 163 = .ok (.irem, 1) := by decide +kernel
theorem dX5_takeTurn_164 : decode cX5_takeTurn 164 = .ok (.ifCond .ne 7, 3) := by decide +kernel
theorem dX5_takeTurn_167 : decode cX5_takeTurn 167 = .ok (.iconst 1, 1) := by decide +kernel
theorem dX5_takeTurn_168 : decode cX5_takeTurn 168 = .ok (.goto 4, 3) := by decide +kernel
theorem dX5_takeTurn_171 : decode cX5_takeTurn 171 = .ok (.iconst 0, 1) := by decide +kernel
theorem dX5_takeTurn_172 : decode cX5_takeTurn 172 = .ok (.invokevirtual 229, 3) := by decide +kernel
theorem dX5_takeTurn_175 : decode cX5_takeTurn 175 = .ok (.pop, 1) := by decide +kernel
theorem dX5_takeTurn_176 : decode cX5_takeTurn 176 = .ok (.goto 96, 3) := by decide +kernel
theorem dX5_takeTurn_179 : decode cX5_takeTurn 179 = .ok (.aload_n 0, 1) := by decide +kernel
theorem dX5_takeTurn_180 : decode cX5_takeTurn 180 = .ok (.getfield 23, 3) := by decide +kernel
theorem dX5_takeTurn_183 : decode cX5_takeTurn 183 = .ok (.iconst 5, 1) := by decide +kernel
theorem dX5_takeTurn_184 : decode cX5_takeTurn 184 = .ok (.iload_n 2, 1) := by decide +kernel
theorem dX5_takeTurn_185 : decode cX5_takeTurn 185 = .ok (.iconst 4, 1) := by decide +kernel
theorem dX5_takeTurn_186 : decode cX5_takeTurn 186 = .ok (.irem, 1) := by decide +kernel
theorem dX5_takeTurn_187 : decode cX5_takeTurn 187 = .ok (.iload_n 2, 1) := by decide +kernel
theorem dX5_takeTurn_188 : decode cX5_takeTurn 188 = .ok (.iconst 4, 1) := by decide +kernel
theorem dX5_takeTurn_189 : decode cX5_takeTurn 189 = .ok (.idiv, 1) := by decide +kernel
theorem dX5_takeTurn_190 : decode cX5_takeTurn 190 = .ok (.iconst 4, 1) := by decide +kernel
theorem dX5_takeTurn_191 : decode cX5_takeTurn 191 = .ok (.irem, 1) := by decide +kernel
theorem dX5_takeTurn_192 : decode cX5_takeTurn 192 = .ok (.iconst 0, 1) := by decide +kernel
theorem dX5_takeTurn_193 : decode cX5_takeTurn 193 = .ok (.invokevirtual 229, 3) := by decide +kernel
theorem dX5_takeTurn_196 : decode cX5_takeTurn 196 = .ok (.pop, 1) := by decide +kernel
theorem dX5_takeTurn_197 : decode cX5_takeTurn 197 = .ok (.goto 75, 3) := by decide +kernel
theorem dX5_takeTurn_200 : decode cX5_takeTurn 200 = .ok (.iload_n 2, 1) := by decide +kernel
theorem dX5_takeTurn_201 : decode cX5_takeTurn 201 = .ok (.sipush 128, 3) := by decide +kernel
theorem dX5_takeTurn_204 : decode cX5_takeTurn 204 = .ok (.idiv, 1) := by decide +kernel
theorem dX5_takeTurn_205 : decode cX5_takeTurn 205 = .ok (.iconst 2, 1) := by decide +kernel
theorem dX5_takeTurn_206 : decode cX5_takeTurn 206 = .ok (.irem, 1) := by decide +kernel
theorem dX5_takeTurn_207 : decode cX5_takeTurn 207 = .ok (.ifCond .ne 22, 3) := by decide +kernel
theorem dX5_takeTurn_210 : decode cX5_takeTurn 210 = .ok (.aload_n 0, 1) := by decide +kernel
theorem dX5_takeTurn_211 : decode cX5_takeTurn 211 = .ok (.getfield 23, 3) := by decide +kernel
theorem dX5_takeTurn_214 : decode cX5_takeTurn 214 = .ok (.bipush 6, 2) := by decide +kernel
theorem dX5_takeTurn_216 : decode cX5_takeTurn 216 = .ok (.iconst 0, 1) := by decide +kernel
theorem dX5_takeTurn_217 : decode cX5_takeTurn 217 = .ok (.iload_n 2, 1) := by decide +kernel
theorem dX5_takeTurn_218 : decode cX5_takeTurn 218 = .ok (.bipush 100, 2) := by decide +kernel
theorem dX5_takeTurn_220 : decode cX5_takeTurn 220 = .ok (.irem, 1) := by decide +kernel
theorem dX5_takeTurn_221 : decode cX5_takeTurn 221 = .ok (.iconst 0, 1) := by decide +kernel
theorem dX5_takeTurn_222 : decode cX5_takeTurn 222 = .ok (.invokevirtual 229, 3) := by decide +kernel
theorem dX5_takeTurn_225 : decode cX5_takeTurn 225 = .ok (.pop, 1) := by decide +kernel
theorem dX5_takeTurn_226 : decode cX5_takeTurn 226 = .ok (.goto 46, 3) := by decide +kernel
theorem dX5_takeTurn_229 : decode cX5_takeTurn 229 = .ok (.aload_n 0, 1) := by decide +kernel
theorem dX5_takeTurn_230 : decode cX5_takeTurn 230 = .ok (.getfield 23, 3) := by decide +kernel
theorem dX5_takeTurn_233 : decode cX5_takeTurn 233 = .ok (.bipush 6, 2) := by decide +kernel
theorem dX5_takeTurn_235 : decode cX5_takeTurn 235 = .ok (.iconst 1, 1) := by decide +kernel
theorem dX5_takeTurn_236 : decode cX5_takeTurn 236 = .ok (.iload_n 2, 1) := by decide +kernel
theorem dX5_takeTurn_237 : decode cX5_takeTurn 237 = .ok (.iconst 3, 1) := by decide +kernel
theorem dX5_takeTurn_238 : decode cX5_takeTurn 238 = .ok (.irem, 1) := by decide +kernel
theorem dX5_takeTurn_239 : decode cX5_takeTurn 239 = .ok (.iadd, 1) := by decide +kernel
theorem dX5_takeTurn_240 : decode cX5_takeTurn 240 = .ok (.iload_n 2, 1) := by decide +kernel
theorem dX5_takeTurn_241 : decode cX5_takeTurn 241 = .ok (.iconst 4, 1) := by decide +kernel
theorem dX5_takeTurn_242 : decode cX5_takeTurn 242 = .ok (.idiv, 1) := by decide +kernel
theorem dX5_takeTurn_243 : decode cX5_takeTurn 243 = .ok (.bipush 10, 2) := by decide +kernel
theorem dX5_takeTurn_245 : decode cX5_takeTurn 245 = .ok (.irem, 1) := by decide +kernel
theorem dX5_takeTurn_246 : decode cX5_takeTurn 246 = .ok (.iconst 0, 1) := by decide +kernel
theorem dX5_takeTurn_247 : decode cX5_takeTurn 247 = .ok (.invokevirtual 229, 3) := by decide +kernel
theorem dX5_takeTurn_250 : decode cX5_takeTurn 250 = .ok (.pop, 1) := by decide +kernel
theorem dX5_takeTurn_251 : decode cX5_takeTurn 251 = .ok (.goto 21, 3) := by decide +kernel
theorem dX5_takeTurn_254 : decode cX5_takeTurn 254 = .ok (.aload_n 0, 1) := by decide +kernel
theorem dX5_takeTurn_255 : decode cX5_takeTurn 255 = .ok (.getfield 23, 3) := by decide +kernel
theorem dX5_takeTurn_258 : decode cX5_takeTurn 258 = .ok (.bipush 7, 2) := by decide +kernel
theorem dX5_takeTurn_260 : decode cX5_takeTurn 260 = .ok (.iconst 1, 1) := by decide +kernel
theorem dX5_takeTurn_261 : decode cX5_takeTurn 261 = .ok (.iload_n 2, 1) := by decide +kernel
theorem dX5_takeTurn_262 : decode cX5_takeTurn 262 = .ok (.bipush 9, 2) := by decide +kernel
theorem dX5_takeTurn_264 : decode cX5_takeTurn 264 = .ok (.irem, 1) := by decide +kernel
theorem dX5_takeTurn_265 : decode cX5_takeTurn 265 = .ok (.iadd, 1) := by decide +kernel
theorem dX5_takeTurn_266 : decode cX5_takeTurn 266 = .ok (.iconst 0, 1) := by decide +kernel
theorem dX5_takeTurn_267 : decode cX5_takeTurn 267 = .ok (.iconst 0, 1) := by decide +kernel
theorem dX5_takeTurn_268 : decode cX5_takeTurn 268 = .ok (.invokevirtual 229, 3) := by decide +kernel
theorem dX5_takeTurn_271 : decode cX5_takeTurn 271 = .ok (.pop, 1) := by decide +kernel
theorem dX5_takeTurn_272 : decode cX5_takeTurn 272 = .ok (.return_, 1) := by decide +kernel
theorem dX5_demandPlace_0 : decode cX5_demandPlace 0 = .ok (.iload_n 0, 1) := by decide +kernel
theorem dX5_demandPlace_1 : decode cX5_demandPlace 1 = .ok (.ifCond .ne 13, 3) := by decide +kernel
theorem dX5_demandPlace_4 : decode cX5_demandPlace 4 = .ok (.new 237, 3) := by decide +kernel
theorem dX5_demandPlace_7 : decode cX5_demandPlace 7 = .ok (.dup, 1) := by decide +kernel
theorem dX5_demandPlace_8 : decode cX5_demandPlace 8 = .ok (.ldc 239, 2) := by decide +kernel
theorem dX5_demandPlace_10 : decode cX5_demandPlace 10 = .ok (.invokespecial 241, 3) := by decide +kernel
theorem dX5_demandPlace_13 : decode cX5_demandPlace 13 = .ok (.athrow, 1) := by decide +kernel
theorem dX5_demandPlace_14 : decode cX5_demandPlace 14 = .ok (.return_, 1) := by decide +kernel
theorem dX5_demandArgument_0 : decode cX5_demandArgument 0 = .ok (.iload_n 0, 1) := by decide +kernel
theorem dX5_demandArgument_1 : decode cX5_demandArgument 1 = .ok (.ifCond .ne 13, 3) := by decide +kernel
theorem dX5_demandArgument_4 : decode cX5_demandArgument 4 = .ok (.new 244, 3) := by decide +kernel
theorem dX5_demandArgument_7 : decode cX5_demandArgument 7 = .ok (.dup, 1) := by decide +kernel
theorem dX5_demandArgument_8 : decode cX5_demandArgument 8 = .ok (.ldc 246, 2) := by decide +kernel
theorem dX5_demandArgument_10 : decode cX5_demandArgument 10 = .ok (.invokespecial 248, 3) := by decide +kernel
theorem dX5_demandArgument_13 : decode cX5_demandArgument 13 = .ok (.athrow, 1) := by decide +kernel
theorem dX5_demandArgument_14 : decode cX5_demandArgument 14 = .ok (.return_, 1) := by decide +kernel
theorem dX5_demandState_0 : decode cX5_demandState 0 = .ok (.iload_n 0, 1) := by decide +kernel
theorem dX5_demandState_1 : decode cX5_demandState 1 = .ok (.ifCond .ne 13, 3) := by decide +kernel
theorem dX5_demandState_4 : decode cX5_demandState 4 = .ok (.new 249, 3) := by decide +kernel
theorem dX5_demandState_7 : decode cX5_demandState 7 = .ok (.dup, 1) := by decide +kernel
theorem dX5_demandState_8 : decode cX5_demandState 8 = .ok (.ldc 251, 2) := by decide +kernel
theorem dX5_demandState_10 : decode cX5_demandState 10 = .ok (.invokespecial 253, 3) := by decide +kernel
theorem dX5_demandState_13 : decode cX5_demandState 13 = .ok (.athrow, 1) := by decide +kernel
theorem dX5_demandState_14 : decode cX5_demandState 14 = .ok (.return_, 1) := by decide +kernel
theorem dX5_isWithin_0 : decode cX5_isWithin 0 = .ok (.iload_n 0, 1) := by decide +kernel
theorem dX5_isWithin_1 : decode cX5_isWithin 1 = .ok (.iload_n 1, 1) := by decide +kernel
theorem dX5_isWithin_2 : decode cX5_isWithin 2 = .ok (.if_icmp .lt 12, 3) := by decide +kernel
theorem dX5_isWithin_5 : decode cX5_isWithin 5 = .ok (.iload_n 0, 1) := by decide +kernel
theorem dX5_isWithin_6 : decode cX5_isWithin 6 = .ok (.iload_n 2, 1) := by decide +kernel
theorem dX5_isWithin_7 : decode cX5_isWithin 7 = .ok (.if_icmp .gt 7, 3) := by decide +kernel
theorem dX5_isWithin_10 : decode cX5_isWithin 10 = .ok (.iconst 1, 1) := by decide +kernel
theorem dX5_isWithin_11 : decode cX5_isWithin 11 = .ok (.goto 4, 3) := by decide +kernel
theorem dX5_isWithin_14 : decode cX5_isWithin 14 = .ok (.iconst 0, 1) := by decide +kernel
theorem dX5_isWithin_15 : decode cX5_isWithin 15 = .ok (.ireturn, 1) := by decide +kernel
theorem dX5_isStreet_0 : decode cX5_isStreet 0 = .ok (.iload_n 0, 1) := by decide +kernel
theorem dX5_isStreet_1 : decode cX5_isStreet 1 = .ok (.iconst 0, 1) := by decide +kernel
theorem dX5_isStreet_2 : decode cX5_isStreet 2 = .ok (.iconst 3, 1) := by decide +kernel
theorem dX5_isStreet_3 : decode cX5_isStreet 3 = .ok (.invokestatic 41, 3) := by decide +kernel
theorem dX5_isStreet_6 : decode cX5_isStreet 6 = .ok (.ireturn, 1) := by decide +kernel
theorem dX5_isWeekday_0 : decode cX5_isWeekday 0 = .ok (.iload_n 0, 1) := by decide +kernel
theorem dX5_isWeekday_1 : decode cX5_isWeekday 1 = .ok (.iconst 0, 1) := by decide +kernel
theorem dX5_isWeekday_2 : decode cX5_isWeekday 2 = .ok (.bipush 6, 2) := by decide +kernel
theorem dX5_isWeekday_4 : decode cX5_isWeekday 4 = .ok (.invokestatic 41, 3) := by decide +kernel
theorem dX5_isWeekday_7 : decode cX5_isWeekday 7 = .ok (.ireturn, 1) := by decide +kernel
theorem dX5_isSetting_0 : decode cX5_isSetting 0 = .ok (.iload_n 0, 1) := by decide +kernel
theorem dX5_isSetting_1 : decode cX5_isSetting 1 = .ok (.iconst 0, 1) := by decide +kernel
theorem dX5_isSetting_2 : decode cX5_isSetting 2 = .ok (.iconst 4, 1) := by decide +kernel
theorem dX5_isSetting_3 : decode cX5_isSetting 3 = .ok (.invokestatic 41, 3) := by decide +kernel
theorem dX5_isSetting_6 : decode cX5_isSetting 6 = .ok (.ireturn, 1) := by decide +kernel
theorem dX5_isSlot_0 : decode cX5_isSlot 0 = .ok (.iload_n 0, 1) := by decide +kernel
theorem dX5_isSlot_1 : decode cX5_isSlot 1 = .ok (.iconst 0, 1) := by decide +kernel
theorem dX5_isSlot_2 : decode cX5_isSlot 2 = .ok (.iconst 1, 1) := by decide +kernel
theorem dX5_isSlot_3 : decode cX5_isSlot 3 = .ok (.invokestatic 41, 3) := by decide +kernel
theorem dX5_isSlot_6 : decode cX5_isSlot 6 = .ok (.ireturn, 1) := by decide +kernel
theorem dX5_weekdayOf_0 : decode cX5_weekdayOf 0 = .ok (.iload_n 0, 1) := by decide +kernel
theorem dX5_weekdayOf_1 : decode cX5_weekdayOf 1 = .ok (.bipush 7, 2) := by decide +kernel
theorem dX5_weekdayOf_3 : decode cX5_weekdayOf 3 = .ok (.irem, 1) := by decide +kernel
theorem dX5_weekdayOf_4 : decode cX5_weekdayOf 4 = .ok (.ireturn, 1) := by decide +kernel

theorem dX1_init_0 : decode cX1_init 0 = .ok (.aload_n 0, 1) := by decide +kernel
theorem dX1_init_1 : decode cX1_init 1 = .ok (.invokespecial 3, 3) := by decide +kernel
theorem dX1_init_4 : decode cX1_init 4 = .ok (.aload_n 0, 1) := by decide +kernel
theorem dX1_init_5 : decode cX1_init 5 = .ok (.bipush 7, 2) := by decide +kernel
theorem dX1_init_7 : decode cX1_init 7 = .ok (.newarray .int, 2) := by decide +kernel
theorem dX1_init_9 : decode cX1_init 9 = .ok (.putfield 9, 3) := by decide +kernel
theorem dX1_init_12 : decode cX1_init 12 = .ok (.aload_n 0, 1) := by decide +kernel
theorem dX1_init_13 : decode cX1_init 13 = .ok (.iconst 3, 1) := by decide +kernel
theorem dX1_init_14 : decode cX1_init 14 = .ok (.newarray .int, 2) := by decide +kernel
theorem dX1_init_16 : decode cX1_init 16 = .ok (.putfield 15, 3) := by decide +kernel
theorem dX1_init_19 : decode cX1_init 19 = .ok (.aload_n 0, 1) := by decide +kernel
theorem dX1_init_20 : decode cX1_init 20 = .ok (.iconst 3, 1) := by decide +kernel
theorem dX1_init_21 : decode cX1_init 21 = .ok (.newarray .int, 2) := by decide +kernel
theorem dX1_init_23 : decode cX1_init 23 = .ok (.putfield 18, 3) := by decide +kernel
theorem dX1_init_26 : decode cX1_init 26 = .ok (.return_, 1) := by decide +kernel
theorem dX1_start_0 : decode cX1_start 0 = .ok (.aload_n 0, 1) := by decide +kernel
theorem dX1_start_1 : decode cX1_start 1 = .ok (.iload_n 1, 1) := by decide +kernel
theorem dX1_start_2 : decode cX1_start 2 = .ok (.putfield 21, 3) := by decide +kernel
theorem dX1_start_5 : decode cX1_start 5 = .ok (.aload_n 0, 1) := by decide +kernel
theorem dX1_start_6 : decode cX1_start 6 = .ok (.iconst 0, 1) := by decide +kernel
theorem dX1_start_7 : decode cX1_start 7 = .ok (.putfield 25, 3) := by decide +kernel
theorem dX1_start_10 : decode cX1_start 10 = .ok (.aload_n 0, 1) := by decide +kernel
theorem dX1_start_11 : decode cX1_start 11 = .ok (.iconst 0, 1) := by decide +kernel
theorem dX1_start_12 : decode cX1_start 12 = .ok (.putfield 28, 3) := by decide +kernel
theorem dX1_start_15 : decode cX1_start 15 = .ok (.aload_n 0, 1) := by decide +kernel
theorem dX1_start_16 : decode cX1_start 16 = .ok (.iconst 0, 1) := by decide +kernel
theorem dX1_start_17 : decode cX1_start 17 = .ok (.putfield 31, 3) := by decide +kernel
theorem dX1_start_20 : decode cX1_start 20 = .ok (.aload_n 0, 1) := by decide +kernel
theorem dX1_start_21 : decode cX1_start 21 = .ok (.iconst 0, 1) := by decide +kernel
theorem dX1_start_22 : decode cX1_start 22 = .ok (.putfield 34, 3) := by decide +kernel
theorem dX1_start_25 : decode cX1_start 25 = .ok (.aload_n 0, 1) := by decide +kernel
theorem dX1_start_26 : decode cX1_start 26 = .ok (.iconst 0, 1) := by decide +kernel
theorem dX1_start_27 : decode cX1_start 27 = .ok (.putfield 37, 3) := by decide +kernel
theorem dX1_start_30 : decode cX1_start 30 = .ok (.aload_n 0, 1) := by decide +kernel
theorem dX1_start_31 : decode cX1_start 31 = .ok (.iconst 0, 1) := by decide +kernel
theorem dX1_start_32 : decode cX1_start 32 = .ok (.putfield 40, 3) := by decide +kernel
theorem dX1_start_35 : decode cX1_start 35 = .ok (.aload_n 0, 1) := by decide +kernel
theorem dX1_start_36 : decode cX1_start 36 = .ok (.iconst 0, 1) := by decide +kernel
theorem dX1_start_37 : decode cX1_start 37 = .ok (.putfield 43, 3) := by decide +kernel
theorem dX1_start_40 : decode cX1_start 40 = .ok (.iload_n 2, 1) := by decide +kernel
theorem dX1_start_41 : decode cX1_start 41 = .ok (.istore_n 3, 1) := by decide +kernel
theorem dX1_start_42 : decode cX1_start 42 = .ok (.bipush 6, 2) := by decide +kernel
theorem dX1_start_44 : decode cX1_start 44 = .ok (.istore 4, 2) := by decide +kernel
theorem dX1_start_46 : decode cX1_start 46 = .ok (.iload 4, 2) := by decide +kernel
theorem dX1_start_48 : decode cX1_start 48 = .ok (.ifCond .lt 25, 3) := by decide +kernel
theorem dX1_start_51 : decode cX1_start 51 = .ok (.aload_n 0, 1) := by decide +kernel
theorem dX1_start_52 : decode cX1_start 52 = .ok (.getfield 9, 3) := by decide +kernel
theorem dX1_start_55 : decode cX1_start 55 = .ok (.iload 4, 2) := by decide +kernel
theorem dX1_start_57 : decode cX1_start 57 = .ok (.iload_n 3, 1) := by decide +kernel
theorem dX1_start_58 : decode cX1_start 58 = .ok (.bipush 10, 2) := by decide +kernel
theorem dX1_start_60 : decode cX1_start 60 = .ok (.irem, 1) := by decide +kernel
theorem dX1_start_61 : decode cX1_start 61 = .ok (.iastore, 1) := by decide +kernel
theorem dX1_start_62 : decode cX1_start 62 = .ok (.iload_n 3, 1) := by decide +kernel
theorem dX1_start_63 : decode cX1_start 63 = .ok (.bipush 10, 2) := by decide +kernel
theorem dX1_start_65 : decode cX1_start 65 = .ok (.idiv, 1) := by decide +kernel
theorem dX1_start_66 : decode cX1_start 66 = .ok (.istore_n 3, 1) := by decide +kernel
theorem dX1_start_67 : decode cX1_start 67 = .ok (.iinc 4 (-1), 3) := by decide +kernel
theorem dX1_start_70 : decode cX1_start 70 = .ok (.goto (-24), 3) := by decide +kernel
theorem dX1_start_73 : decode cX1_start 73 = .ok (.return_, 1) := by decide +kernel
theorem dX1_copyFrom_0 : decode cX1_copyFrom 0 = .ok (.aload_n 0, 1) := by decide +kernel
theorem dX1_copyFrom_1 : decode cX1_copyFrom 1 = .ok (.aload_n 1, 1) := by decide +kernel
theorem dX1_copyFrom_2 : decode cX1_copyFrom 2 = .ok (.getfield 21, 3) := by decide +kernel
theorem dX1_copyFrom_5 : decode cX1_copyFrom 5 = .ok (.putfield 21, 3) := by decide +kernel
theorem dX1_copyFrom_8 : decode cX1_copyFrom 8 = .ok (.aload_n 0, 1) := by decide +kernel
theorem dX1_copyFrom_9 : decode cX1_copyFrom 9 = .ok (.aload_n 1, 1) := by decide +kernel
theorem dX1_copyFrom_10 : decode cX1_copyFrom 10 = .ok (.getfield 25, 3) := by decide +kernel
theorem dX1_copyFrom_13 : decode cX1_copyFrom 13 = .ok (.putfield 25, 3) := by decide +kernel
theorem dX1_copyFrom_16 : decode cX1_copyFrom 16 = .ok (.aload_n 0, 1) := by decide +kernel
theorem dX1_copyFrom_17 : decode cX1_copyFrom 17 = .ok (.aload_n 1, 1) := by decide +kernel
theorem dX1_copyFrom_18 : decode cX1_copyFrom 18 = .ok (.getfield 28, 3) := by decide +kernel
theorem dX1_copyFrom_21 : decode cX1_copyFrom 21 = .ok (.putfield 28, 3) := by decide +kernel
theorem dX1_copyFrom_24 : decode cX1_copyFrom 24 = .ok (.aload_n 0, 1) := by decide +kernel
theorem dX1_copyFrom_25 : decode cX1_copyFrom 25 = .ok (.aload_n 1, 1) := by decide +kernel
theorem dX1_copyFrom_26 : decode cX1_copyFrom 26 = .ok (.getfield 31, 3) := by decide +kernel
theorem dX1_copyFrom_29 : decode cX1_copyFrom 29 = .ok (.putfield 31, 3) := by decide +kernel
theorem dX1_copyFrom_32 : decode cX1_copyFrom 32 = .ok (.aload_n 0, 1) := by decide +kernel
theorem dX1_copyFrom_33 : decode cX1_copyFrom 33 = .ok (.aload_n 1, 1) := by decide +kernel
theorem dX1_copyFrom_34 : decode cX1_copyFrom 34 = .ok (.getfield 34, 3) := by decide +kernel
theorem dX1_copyFrom_37 : decode cX1_copyFrom 37 = .ok (.putfield 34, 3) := by decide +kernel
theorem dX1_copyFrom_40 : decode cX1_copyFrom 40 = .ok (.aload_n 0, 1) := by decide +kernel
theorem dX1_copyFrom_41 : decode cX1_copyFrom 41 = .ok (.aload_n 1, 1) := by decide +kernel
theorem dX1_copyFrom_42 : decode cX1_copyFrom 42 = .ok (.getfield 37, 3) := by decide +kernel
theorem dX1_copyFrom_45 : decode cX1_copyFrom 45 = .ok (.putfield 37, 3) := by decide +kernel
theorem dX1_copyFrom_48 : decode cX1_copyFrom 48 = .ok (.aload_n 0, 1) := by decide +kernel
theorem dX1_copyFrom_49 : decode cX1_copyFrom 49 = .ok (.aload_n 1, 1) := by decide +kernel
theorem dX1_copyFrom_50 : decode cX1_copyFrom 50 = .ok (.getfield 40, 3) := by decide +kernel
theorem dX1_copyFrom_53 : decode cX1_copyFrom 53 = .ok (.putfield 40, 3) := by decide +kernel
theorem dX1_copyFrom_56 : decode cX1_copyFrom 56 = .ok (.aload_n 0, 1) := by decide +kernel
theorem dX1_copyFrom_57 : decode cX1_copyFrom 57 = .ok (.aload_n 1, 1) := by decide +kernel
theorem dX1_copyFrom_58 : decode cX1_copyFrom 58 = .ok (.getfield 43, 3) := by decide +kernel
theorem dX1_copyFrom_61 : decode cX1_copyFrom 61 = .ok (.putfield 43, 3) := by decide +kernel
theorem dX1_copyFrom_64 : decode cX1_copyFrom 64 = .ok (.aload_n 1, 1) := by decide +kernel
theorem dX1_copyFrom_65 : decode cX1_copyFrom 65 = .ok (.getfield 9, 3) := by decide +kernel
theorem dX1_copyFrom_68 : decode cX1_copyFrom 68 = .ok (.iconst 0, 1) := by decide +kernel
theorem dX1_copyFrom_69 : decode cX1_copyFrom 69 = .ok (.aload_n 0, 1) := by decide +kernel
theorem dX1_copyFrom_70 : decode cX1_copyFrom 70 = .ok (.getfield 9, 3) := by decide +kernel
theorem dX1_copyFrom_73 : decode cX1_copyFrom 73 = .ok (.iconst 0, 1) := by decide +kernel
theorem dX1_copyFrom_74 : decode cX1_copyFrom 74 = .ok (.bipush 7, 2) := by decide +kernel
theorem dX1_copyFrom_76 : decode cX1_copyFrom 76 = .ok (.invokestatic 46, 3) := by decide +kernel
theorem dX1_copyFrom_79 : decode cX1_copyFrom 79 = .ok (.aload_n 1, 1) := by decide +kernel
theorem dX1_copyFrom_80 : decode cX1_copyFrom 80 = .ok (.getfield 15, 3) := by decide +kernel
theorem dX1_copyFrom_83 : decode cX1_copyFrom 83 = .ok (.iconst 0, 1) := by decide +kernel
theorem dX1_copyFrom_84 : decode cX1_copyFrom 84 = .ok (.aload_n 0, 1) := by decide +kernel
theorem dX1_copyFrom_85 : decode cX1_copyFrom 85 = .ok (.getfield 15, 3) := by decide +kernel
theorem dX1_copyFrom_88 : decode cX1_copyFrom 88 = .ok (.iconst 0, 1) := by decide +kernel
theorem dX1_copyFrom_89 : decode cX1_copyFrom 89 = .ok (.iconst 3, 1) := by decide +kernel
theorem dX1_copyFrom_90 : decode cX1_copyFrom 90 = .ok (.invokestatic 46, 3) := by decide +kernel
theorem dX1_copyFrom_93 : decode cX1_copyFrom 93 = .ok (.aload_n 1, 1) := by decide +kernel
theorem dX1_copyFrom_94 : decode cX1_copyFrom 94 = .ok (.getfield 18, 3) := by decide +kernel
theorem dX1_copyFrom_97 : decode cX1_copyFrom 97 = .ok (.iconst 0, 1) := by decide +kernel
theorem dX1_copyFrom_98 : decode cX1_copyFrom 98 = .ok (.aload_n 0, 1) := by decide +kernel
theorem dX1_copyFrom_99 : decode cX1_copyFrom 99 = .ok (.getfield 18, 3) := by decide +kernel
theorem dX1_copyFrom_102 : decode cX1_copyFrom 102 = .ok (.iconst 0, 1) := by decide +kernel
theorem dX1_copyFrom_103 : decode cX1_copyFrom 103 = .ok (.iconst 3, 1) := by decide +kernel
theorem dX1_copyFrom_104 : decode cX1_copyFrom 104 = .ok (.invokestatic 46, 3) := by decide +kernel
theorem dX1_copyFrom_107 : decode cX1_copyFrom 107 = .ok (.return_, 1) := by decide +kernel
theorem dX1_numberOf_0 : decode cX1_numberOf 0 = .ok (.iload_n 1, 1) := by decide +kernel
theorem dX1_numberOf_1 : decode cX1_numberOf 1 = .ok (.tableswitch 87 0 7 #[47, 52, 57, 62, 67, 72, 77, 82], 47) := by decide +kernel
theorem dX1_numberOf_48 : decode cX1_numberOf 48 = .ok (.aload_n 0, 1) := by decide +kernel
theorem dX1_numberOf_49 : decode cX1_numberOf 49 = .ok (.getfield 21, 3) := by decide +kernel
theorem dX1_numberOf_52 : decode cX1_numberOf 52 = .ok (.ireturn, 1) := by decide +kernel
theorem dX1_numberOf_53 : decode cX1_numberOf 53 = .ok (.aload_n 0, 1) := by decide +kernel
theorem dX1_numberOf_54 : decode cX1_numberOf 54 = .ok (.invokevirtual 52, 3) := by decide +kernel
theorem dX1_numberOf_57 : decode cX1_numberOf 57 = .ok (.ireturn, 1) := by decide +kernel
theorem dX1_numberOf_58 : decode cX1_numberOf 58 = .ok (.aload_n 0, 1) := by decide +kernel
theorem dX1_numberOf_59 : decode cX1_numberOf 59 = .ok (.getfield 25, 3) := by decide +kernel
theorem dX1_numberOf_62 : decode cX1_numberOf 62 = .ok (.ireturn, 1) := by decide +kernel
theorem dX1_numberOf_63 : decode cX1_numberOf 63 = .ok (.aload_n 0, 1) := by decide +kernel
theorem dX1_numberOf_64 : decode cX1_numberOf 64 = .ok (.getfield 28, 3) := by decide +kernel
theorem dX1_numberOf_67 : decode cX1_numberOf 67 = .ok (.ireturn, 1) := by decide +kernel
theorem dX1_numberOf_68 : decode cX1_numberOf 68 = .ok (.aload_n 0, 1) := by decide +kernel
theorem dX1_numberOf_69 : decode cX1_numberOf 69 = .ok (.getfield 31, 3) := by decide +kernel
theorem dX1_numberOf_72 : decode cX1_numberOf 72 = .ok (.ireturn, 1) := by decide +kernel
theorem dX1_numberOf_73 : decode cX1_numberOf 73 = .ok (.aload_n 0, 1) := by decide +kernel
theorem dX1_numberOf_74 : decode cX1_numberOf 74 = .ok (.getfield 34, 3) := by decide +kernel
theorem dX1_numberOf_77 : decode cX1_numberOf 77 = .ok (.ireturn, 1) := by decide +kernel
theorem dX1_numberOf_78 : decode cX1_numberOf 78 = .ok (.aload_n 0, 1) := by decide +kernel
theorem dX1_numberOf_79 : decode cX1_numberOf 79 = .ok (.getfield 37, 3) := by decide +kernel
theorem dX1_numberOf_82 : decode cX1_numberOf 82 = .ok (.ireturn, 1) := by decide +kernel
theorem dX1_numberOf_83 : decode cX1_numberOf 83 = .ok (.aload_n 0, 1) := by decide +kernel
theorem dX1_numberOf_84 : decode cX1_numberOf 84 = .ok (.getfield 40, 3) := by decide +kernel
theorem dX1_numberOf_87 : decode cX1_numberOf 87 = .ok (.ireturn, 1) := by decide +kernel
theorem dX1_numberOf_88 : decode cX1_numberOf 88 = .ok (.aload_n 0, 1) := by decide +kernel
theorem dX1_numberOf_89 : decode cX1_numberOf 89 = .ok (.getfield 43, 3) := by decide +kernel
theorem dX1_numberOf_92 : decode cX1_numberOf 92 = .ok (.ireturn, 1) := by decide +kernel
theorem dX1_loavesAWeek_0 : decode cX1_loavesAWeek 0 = .ok (.iconst 0, 1) := by decide +kernel
theorem dX1_loavesAWeek_1 : decode cX1_loavesAWeek 1 = .ok (.istore_n 1, 1) := by decide +kernel
theorem dX1_loavesAWeek_2 : decode cX1_loavesAWeek 2 = .ok (.iconst 0, 1) := by decide +kernel
theorem dX1_loavesAWeek_3 : decode cX1_loavesAWeek 3 = .ok (.istore_n 2, 1) := by decide +kernel
theorem dX1_loavesAWeek_4 : decode cX1_loavesAWeek 4 = .ok (.iload_n 2, 1) := by decide +kernel
theorem dX1_loavesAWeek_5 : decode cX1_loavesAWeek 5 = .ok (.bipush 7, 2) := by decide +kernel
theorem dX1_loavesAWeek_7 : decode cX1_loavesAWeek 7 = .ok (.if_icmp .ge 18, 3) := by decide +kernel
theorem dX1_loavesAWeek_10 : decode cX1_loavesAWeek 10 = .ok (.iload_n 1, 1) := by decide +kernel
theorem dX1_loavesAWeek_11 : decode cX1_loavesAWeek 11 = .ok (.aload_n 0, 1) := by decide +kernel
theorem dX1_loavesAWeek_12 : decode cX1_loavesAWeek 12 = .ok (.getfield 9, 3) := by decide +kernel
theorem dX1_loavesAWeek_15 : decode cX1_loavesAWeek 15 = .ok (.iload_n 2, 1) := by decide +kernel
theorem dX1_loavesAWeek_16 : decode cX1_loavesAWeek 16 = .ok (.iaload, 1) := by decide +kernel
theorem dX1_loavesAWeek_17 : decode cX1_loavesAWeek 17 = .ok (.iadd, 1) := by decide +kernel
theorem dX1_loavesAWeek_18 : decode cX1_loavesAWeek 18 = .ok (.istore_n 1, 1) := by decide +kernel
theorem dX1_loavesAWeek_19 : decode cX1_loavesAWeek 19 = .ok (.iinc 2 1, 3) := by decide +kernel
theorem dX1_loavesAWeek_22 : decode cX1_loavesAWeek 22 = .ok (.goto (-18), 3) := by decide +kernel
theorem dX1_loavesAWeek_25 : decode cX1_loavesAWeek 25 = .ok (.iload_n 1, 1) := by decide +kernel
theorem dX1_loavesAWeek_26 : decode cX1_loavesAWeek 26 = .ok (.ireturn, 1) := by decide +kernel
theorem dX1_putLoaves_0 : decode cX1_putLoaves 0 = .ok (.aload_n 0, 1) := by decide +kernel
theorem dX1_putLoaves_1 : decode cX1_putLoaves 1 = .ok (.getfield 9, 3) := by decide +kernel
theorem dX1_putLoaves_4 : decode cX1_putLoaves 4 = .ok (.iload_n 1, 1) := by decide +kernel
theorem dX1_putLoaves_5 : decode cX1_putLoaves 5 = .ok (.iaload, 1) := by decide +kernel
theorem dX1_putLoaves_6 : decode cX1_putLoaves 6 = .ok (.istore_n 3, 1) := by decide +kernel
theorem dX1_putLoaves_7 : decode cX1_putLoaves 7 = .ok (.aload_n 0, 1) := by decide +kernel
theorem dX1_putLoaves_8 : decode cX1_putLoaves 8 = .ok (.getfield 9, 3) := by decide +kernel
theorem dX1_putLoaves_11 : decode cX1_putLoaves 11 = .ok (.iload_n 1, 1) := by decide +kernel
theorem dX1_putLoaves_12 : decode cX1_putLoaves 12 = .ok (.iload_n 2, 1) := by decide +kernel
theorem dX1_putLoaves_13 : decode cX1_putLoaves 13 = .ok (.iastore, 1) := by decide +kernel
theorem dX1_putLoaves_14 : decode cX1_putLoaves 14 = .ok (.iload_n 3, 1) := by decide +kernel
theorem dX1_putLoaves_15 : decode cX1_putLoaves 15 = .ok (.ireturn, 1) := by decide +kernel
theorem dX1_addHoliday_0 : decode cX1_addHoliday 0 = .ok (.aload_n 0, 1) := by decide +kernel
theorem dX1_addHoliday_1 : decode cX1_addHoliday 1 = .ok (.getfield 15, 3) := by decide +kernel
theorem dX1_addHoliday_4 : decode cX1_addHoliday 4 = .ok (.aload_n 0, 1) := by decide +kernel
theorem dX1_addHoliday_5 : decode cX1_addHoliday 5 = .ok (.getfield 43, 3) := by decide +kernel
theorem dX1_addHoliday_8 : decode cX1_addHoliday 8 = .ok (.iload_n 1, 1) := by decide +kernel
theorem dX1_addHoliday_9 : decode cX1_addHoliday 9 = .ok (.iastore, 1) := by decide +kernel
theorem dX1_addHoliday_10 : decode cX1_addHoliday 10 = .ok (.aload_n 0, 1) := by decide +kernel
theorem dX1_addHoliday_11 : decode cX1_addHoliday 11 = .ok (.getfield 18, 3) := by decide +kernel
theorem dX1_addHoliday_14 : decode cX1_addHoliday 14 = .ok (.aload_n 0, 1) := by decide +kernel
theorem dX1_addHoliday_15 : decode cX1_addHoliday 15 = .ok (.getfield 43, 3) := by decide +kernel
theorem dX1_addHoliday_18 : decode cX1_addHoliday 18 = .ok (.iload_n 2, 1) := by decide +kernel
theorem dX1_addHoliday_19 : decode cX1_addHoliday 19 = .ok (.iastore, 1) := by decide +kernel
theorem dX1_addHoliday_20 : decode cX1_addHoliday 20 = .ok (.aload_n 0, 1) := by decide +kernel
theorem dX1_addHoliday_21 : decode cX1_addHoliday 21 = .ok (.dup, 1) := by decide +kernel
theorem dX1_addHoliday_22 : decode cX1_addHoliday 22 = .ok (.getfield 43, 3) := by decide +kernel
theorem dX1_addHoliday_25 : decode cX1_addHoliday 25 = .ok (.iconst 1, 1) := by decide +kernel
theorem dX1_addHoliday_26 : decode cX1_addHoliday 26 = .ok (.iadd, 1) := by decide +kernel
theorem dX1_addHoliday_27 : decode cX1_addHoliday 27 = .ok (.putfield 43, 3) := by decide +kernel
theorem dX1_addHoliday_30 : decode cX1_addHoliday 30 = .ok (.aload_n 0, 1) := by decide +kernel
theorem dX1_addHoliday_31 : decode cX1_addHoliday 31 = .ok (.getfield 43, 3) := by decide +kernel
theorem dX1_addHoliday_34 : decode cX1_addHoliday 34 = .ok (.ireturn, 1) := by decide +kernel
theorem dX1_dropHoliday_0 : decode cX1_dropHoliday 0 = .ok (.iload_n 1, 1) := by decide +kernel
theorem dX1_dropHoliday_1 : decode cX1_dropHoliday 1 = .ok (.istore_n 2, 1) := by decide +kernel
theorem dX1_dropHoliday_2 : decode cX1_dropHoliday 2 = .ok (.iload_n 2, 1) := by decide +kernel
theorem dX1_dropHoliday_3 : decode cX1_dropHoliday 3 = .ok (.iconst 1, 1) := by decide +kernel
theorem dX1_dropHoliday_4 : decode cX1_dropHoliday 4 = .ok (.iadd, 1) := by decide +kernel
theorem dX1_dropHoliday_5 : decode cX1_dropHoliday 5 = .ok (.aload_n 0, 1) := by decide +kernel
theorem dX1_dropHoliday_6 : decode cX1_dropHoliday 6 = .ok (.getfield 43, 3) := by decide +kernel
theorem dX1_dropHoliday_9 : decode cX1_dropHoliday 9 = .ok (.if_icmp .ge 37, 3) := by decide +kernel
theorem dX1_dropHoliday_12 : decode cX1_dropHoliday 12 = .ok (.aload_n 0, 1) := by decide +kernel
theorem dX1_dropHoliday_13 : decode cX1_dropHoliday 13 = .ok (.getfield 15, 3) := by decide +kernel
theorem dX1_dropHoliday_16 : decode cX1_dropHoliday 16 = .ok (.iload_n 2, 1) := by decide +kernel
theorem dX1_dropHoliday_17 : decode cX1_dropHoliday 17 = .ok (.aload_n 0, 1) := by decide +kernel
theorem dX1_dropHoliday_18 : decode cX1_dropHoliday 18 = .ok (.getfield 15, 3) := by decide +kernel
theorem dX1_dropHoliday_21 : decode cX1_dropHoliday 21 = .ok (.iload_n 2, 1) := by decide +kernel
theorem dX1_dropHoliday_22 : decode cX1_dropHoliday 22 = .ok (.iconst 1, 1) := by decide +kernel
theorem dX1_dropHoliday_23 : decode cX1_dropHoliday 23 = .ok (.iadd, 1) := by decide +kernel
theorem dX1_dropHoliday_24 : decode cX1_dropHoliday 24 = .ok (.iaload, 1) := by decide +kernel
theorem dX1_dropHoliday_25 : decode cX1_dropHoliday 25 = .ok (.iastore, 1) := by decide +kernel
theorem dX1_dropHoliday_26 : decode cX1_dropHoliday 26 = .ok (.aload_n 0, 1) := by decide +kernel
theorem dX1_dropHoliday_27 : decode cX1_dropHoliday 27 = .ok (.getfield 18, 3) := by decide +kernel
theorem dX1_dropHoliday_30 : decode cX1_dropHoliday 30 = .ok (.iload_n 2, 1) := by decide +kernel
theorem dX1_dropHoliday_31 : decode cX1_dropHoliday 31 = .ok (.aload_n 0, 1) := by decide +kernel
theorem dX1_dropHoliday_32 : decode cX1_dropHoliday 32 = .ok (.getfield 18, 3) := by decide +kernel
theorem dX1_dropHoliday_35 : decode cX1_dropHoliday 35 = .ok (.iload_n 2, 1) := by decide +kernel
theorem dX1_dropHoliday_36 : decode cX1_dropHoliday 36 = .ok (.iconst 1, 1) := by decide +kernel
theorem dX1_dropHoliday_37 : decode cX1_dropHoliday 37 = .ok (.iadd, 1) := by decide +kernel
theorem dX1_dropHoliday_38 : decode cX1_dropHoliday 38 = .ok (.iaload, 1) := by decide +kernel
theorem dX1_dropHoliday_39 : decode cX1_dropHoliday 39 = .ok (.iastore, 1) := by decide +kernel
theorem dX1_dropHoliday_40 : decode cX1_dropHoliday 40 = .ok (.iinc 2 1, 3) := by decide +kernel
theorem dX1_dropHoliday_43 : decode cX1_dropHoliday 43 = .ok (.goto (-41), 3) := by decide +kernel
theorem dX1_dropHoliday_46 : decode cX1_dropHoliday 46 = .ok (.aload_n 0, 1) := by decide +kernel
theorem dX1_dropHoliday_47 : decode cX1_dropHoliday 47 = .ok (.dup, 1) := by decide +kernel
theorem dX1_dropHoliday_48 : decode cX1_dropHoliday 48 = .ok (.getfield 43, 3) := by decide +kernel
theorem dX1_dropHoliday_51 : decode cX1_dropHoliday 51 = .ok (.iconst 1, 1) := by decide +kernel
theorem dX1_dropHoliday_52 : decode cX1_dropHoliday 52 = .ok (.isub, 1) := by decide +kernel
theorem dX1_dropHoliday_53 : decode cX1_dropHoliday 53 = .ok (.putfield 43, 3) := by decide +kernel
theorem dX1_dropHoliday_56 : decode cX1_dropHoliday 56 = .ok (.aload_n 0, 1) := by decide +kernel
theorem dX1_dropHoliday_57 : decode cX1_dropHoliday 57 = .ok (.getfield 43, 3) := by decide +kernel
theorem dX1_dropHoliday_60 : decode cX1_dropHoliday 60 = .ok (.ireturn, 1) := by decide +kernel
theorem dX1_isAwayOn_0 : decode cX1_isAwayOn 0 = .ok (.aload_n 0, 1) := by decide +kernel
theorem dX1_isAwayOn_1 : decode cX1_isAwayOn 1 = .ok (.iload_n 1, 1) := by decide +kernel
theorem dX1_isAwayOn_2 : decode cX1_isAwayOn 2 = .ok (.aload_n 0, 1) := by decide +kernel
theorem dX1_isAwayOn_3 : decode cX1_isAwayOn 3 = .ok (.getfield 43, 3) := by decide +kernel
theorem dX1_isAwayOn_6 : decode cX1_isAwayOn 6 = .ok (.invokevirtual 56, 3) := by decide +kernel
theorem dX1_isAwayOn_9 : decode cX1_isAwayOn 9 = .ok (.ireturn, 1) := by decide +kernel
theorem dX1_isInFirstHolidays_0 : decode cX1_isInFirstHolidays 0 = .ok (.iconst 0, 1) := by decide +kernel
theorem dX1_isInFirstHolidays_1 : decode cX1_isInFirstHolidays 1 = .ok (.istore_n 3, 1) := by decide +kernel
theorem dX1_isInFirstHolidays_2 : decode cX1_isInFirstHolidays 2 = .ok (.iload_n 3, 1) := by decide +kernel
theorem dX1_isInFirstHolidays_3 : decode cX1_isInFirstHolidays 3 = .ok (.iload_n 2, 1) := by decide +kernel
theorem dX1_isInFirstHolidays_4 : decode cX1_isInFirstHolidays 4 = .ok (.if_icmp .ge 31, 3) := by decide +kernel
theorem dX1_isInFirstHolidays_7 : decode cX1_isInFirstHolidays 7 = .ok (.iload_n 1, 1) := by decide +kernel
theorem dX1_isInFirstHolidays_8 : decode cX1_isInFirstHolidays 8 = .ok (.aload_n 0, 1) := by decide +kernel
theorem dX1_isInFirstHolidays_9 : decode cX1_isInFirstHolidays 9 = .ok (.getfield 15, 3) := by decide +kernel
theorem dX1_isInFirstHolidays_12 : decode cX1_isInFirstHolidays 12 = .ok (.iload_n 3, 1) := by decide +kernel
theorem dX1_isInFirstHolidays_13 : decode cX1_isInFirstHolidays 13 = .ok (.iaload, 1) := by decide +kernel
theorem dX1_isInFirstHolidays_14 : decode cX1_isInFirstHolidays 14 = .ok (.if_icmp .lt 15, 3) := by decide +kernel
theorem dX1_isInFirstHolidays_17 : decode cX1_isInFirstHolidays 17 = .ok (.iload_n 1, 1) := by decide +kernel
theorem dX1_isInFirstHolidays_18 : decode cX1_isInFirstHolidays 18 = .ok (.aload_n 0, 1) := by decide +kernel
theorem dX1_isInFirstHolidays_19 : decode cX1_isInFirstHolidays 19 = .ok (.getfield 18, 3) := by decide +kernel
theorem dX1_isInFirstHolidays_22 : decode cX1_isInFirstHolidays 22 = .ok (.iload_n 3, 1) := by decide +kernel
theorem dX1_isInFirstHolidays_23 : decode cX1_isInFirstHolidays 23 = .ok (.iaload, 1) := by decide +kernel
theorem dX1_isInFirstHolidays_24 : decode cX1_isInFirstHolidays 24 = .ok (.if_icmp .gt 5, 3) := by decide +kernel
theorem dX1_isInFirstHolidays_27 : decode cX1_isInFirstHolidays 27 = .ok (.iconst 1, 1) := by decide +kernel
theorem dX1_isInFirstHolidays_28 : decode cX1_isInFirstHolidays 28 = .ok (.ireturn, 1) := by decide +kernel
theorem dX1_isInFirstHolidays_29 : decode cX1_isInFirstHolidays 29 = .ok (.iinc 3 1, 3) := by decide +kernel
theorem dX1_isInFirstHolidays_32 : decode cX1_isInFirstHolidays 32 = .ok (.goto (-30), 3) := by decide +kernel
theorem dX1_isInFirstHolidays_35 : decode cX1_isInFirstHolidays 35 = .ok (.iconst 0, 1) := by decide +kernel
theorem dX1_isInFirstHolidays_36 : decode cX1_isInFirstHolidays 36 = .ok (.ireturn, 1) := by decide +kernel
theorem dX1_dueOn_0 : decode cX1_dueOn 0 = .ok (.aload_n 0, 1) := by decide +kernel
theorem dX1_dueOn_1 : decode cX1_dueOn 1 = .ok (.iload_n 1, 1) := by decide +kernel
theorem dX1_dueOn_2 : decode cX1_dueOn 2 = .ok (.aload_n 0, 1) := by decide +kernel
theorem dX1_dueOn_3 : decode cX1_dueOn 3 = .ok (.getfield 43, 3) := by decide +kernel
theorem dX1_dueOn_6 : decode cX1_dueOn 6 = .ok (.invokevirtual 56, 3) := by decide +kernel
theorem dX1_dueOn_9 : decode cX1_dueOn 9 = .ok (.ifCond .eq 7, 3) := by decide +kernel
theorem dX1_dueOn_12 : decode cX1_dueOn 12 = .ok (.iconst 0, 1) := by decide +kernel
theorem dX1_dueOn_13 : decode cX1_dueOn 13 = .ok (.goto 12, 3) := by decide +kernel
theorem dX1_dueOn_16 : decode cX1_dueOn 16 = .ok (.aload_n 0, 1) := by decide +kernel
theorem dX1_dueOn_17 : decode cX1_dueOn 17 = .ok (.getfield 9, 3) := by decide +kernel
theorem dX1_dueOn_20 : decode cX1_dueOn 20 = .ok (.iload_n 1, 1) := by decide +kernel
theorem dX1_dueOn_21 : decode cX1_dueOn 21 = .ok (.invokestatic 60, 3) := by decide +kernel
theorem dX1_dueOn_24 : decode cX1_dueOn 24 = .ok (.iaload, 1) := by decide +kernel
theorem dX1_dueOn_25 : decode cX1_dueOn 25 = .ok (.ireturn, 1) := by decide +kernel
theorem dX1_nextDueDay_0 : decode cX1_nextDueDay 0 = .ok (.iload_n 1, 1) := by decide +kernel
theorem dX1_nextDueDay_1 : decode cX1_nextDueDay 1 = .ok (.istore_n 2, 1) := by decide +kernel
theorem dX1_nextDueDay_2 : decode cX1_nextDueDay 2 = .ok (.iload_n 2, 1) := by decide +kernel
theorem dX1_nextDueDay_3 : decode cX1_nextDueDay 3 = .ok (.iload_n 1, 1) := by decide +kernel
theorem dX1_nextDueDay_4 : decode cX1_nextDueDay 4 = .ok (.sipush 200, 3) := by decide +kernel
theorem dX1_nextDueDay_7 : decode cX1_nextDueDay 7 = .ok (.iadd, 1) := by decide +kernel
theorem dX1_nextDueDay_8 : decode cX1_nextDueDay 8 = .ok (.if_icmp .gt 19, 3) := by decide +kernel
theorem dX1_nextDueDay_11 : decode cX1_nextDueDay 11 = .ok (.aload_n 0, 1) := by decide +kernel
theorem dX1_nextDueDay_12 : decode cX1_nextDueDay 12 = .ok (.iload_n 2, 1) := by decide +kernel
theorem dX1_nextDueDay_13 : decode cX1_nextDueDay 13 = .ok (.invokevirtual 64, 3) := by decide +kernel
theorem dX1_nextDueDay_16 : decode cX1_nextDueDay 16 = .ok (.ifCond .le 5, 3) := by decide +kernel
theorem dX1_nextDueDay_19 : decode cX1_nextDueDay 19 = .ok (.iload_n 2, 1) := by decide +kernel
theorem dX1_nextDueDay_20 : decode cX1_nextDueDay 20 = .ok (.ireturn, 1) := by decide +kernel
theorem dX1_nextDueDay_21 : decode cX1_nextDueDay 21 = .ok (.iinc 2 1, 3) := by decide +kernel
theorem dX1_nextDueDay_24 : decode cX1_nextDueDay 24 = .ok (.goto (-22), 3) := by decide +kernel
theorem dX1_nextDueDay_27 : decode cX1_nextDueDay 27 = .ok (.iconst (-1), 1) := by decide +kernel
theorem dX1_nextDueDay_28 : decode cX1_nextDueDay 28 = .ok (.ireturn, 1) := by decide +kernel
theorem dX1_dueDayByDay_0 : decode cX1_dueDayByDay 0 = .ok (.iconst 0, 1) := by decide +kernel
theorem dX1_dueDayByDay_1 : decode cX1_dueDayByDay 1 = .ok (.istore_n 3, 1) := by decide +kernel
theorem dX1_dueDayByDay_2 : decode cX1_dueDayByDay 2 = .ok (.iload_n 1, 1) := by decide +kernel
theorem dX1_dueDayByDay_3 : decode cX1_dueDayByDay 3 = .ok (.istore 4, 2) := by decide +kernel
theorem dX1_dueDayByDay_5 : decode cX1_dueDayByDay 5 = .ok (.iload 4, 2) := by decide +kernel
theorem dX1_dueDayByDay_7 : decode cX1_dueDayByDay 7 = .ok (.iload_n 1, 1) := by decide +kernel
theorem dX1_dueDayByDay_8 : decode cX1_dueDayByDay 8 = .ok (.iload_n 2, 1) := by decide +kernel
theorem dX1_dueDayByDay_9 : decode cX1_dueDayByDay 9 = .ok (.iadd, 1) := by decide +kernel
theorem dX1_dueDayByDay_10 : decode cX1_dueDayByDay 10 = .ok (.if_icmp .ge 18, 3) := by decide +kernel
theorem dX1_dueDayByDay_13 : decode cX1_dueDayByDay 13 = .ok (.iload_n 3, 1) := by decide +kernel
theorem dX1_dueDayByDay_14 : decode cX1_dueDayByDay 14 = .ok (.aload_n 0, 1) := by decide +kernel
theorem dX1_dueDayByDay_15 : decode cX1_dueDayByDay 15 = .ok (.iload 4, 2) := by decide +kernel
theorem dX1_dueDayByDay_17 : decode cX1_dueDayByDay 17 = .ok (.invokevirtual 64, 3) := by decide +kernel
theorem dX1_dueDayByDay_20 : decode cX1_dueDayByDay 20 = .ok (.iadd, 1) := by decide +kernel
theorem dX1_dueDayByDay_21 : decode cX1_dueDayByDay 21 = .ok (.istore_n 3, 1) := by decide +kernel
theorem dX1_dueDayByDay_22 : decode cX1_dueDayByDay 22 = .ok (.iinc 4 1, 3) := by decide +kernel
theorem dX1_dueDayByDay_25 : decode cX1_dueDayByDay 25 = .ok (.goto (-20), 3) := by decide +kernel
theorem dX1_dueDayByDay_28 : decode cX1_dueDayByDay 28 = .ok (.iload_n 3, 1) := by decide +kernel
theorem dX1_dueDayByDay_29 : decode cX1_dueDayByDay 29 = .ok (.ireturn, 1) := by decide +kernel
theorem dX1_dueByWeeks_0 : decode cX1_dueByWeeks 0 = .ok (.iload_n 2, 1) := by decide +kernel
theorem dX1_dueByWeeks_1 : decode cX1_dueByWeeks 1 = .ok (.bipush 7, 2) := by decide +kernel
theorem dX1_dueByWeeks_3 : decode cX1_dueByWeeks 3 = .ok (.idiv, 1) := by decide +kernel
theorem dX1_dueByWeeks_4 : decode cX1_dueByWeeks 4 = .ok (.istore_n 3, 1) := by decide +kernel
theorem dX1_dueByWeeks_5 : decode cX1_dueByWeeks 5 = .ok (.iload_n 3, 1) := by decide +kernel
theorem dX1_dueByWeeks_6 : decode cX1_dueByWeeks 6 = .ok (.aload_n 0, 1) := by decide +kernel
theorem dX1_dueByWeeks_7 : decode cX1_dueByWeeks 7 = .ok (.invokevirtual 52, 3) := by decide +kernel
theorem dX1_dueByWeeks_10 : decode cX1_dueByWeeks 10 = .ok (.imul, 1) := by decide +kernel
theorem dX1_dueByWeeks_11 : decode cX1_dueByWeeks 11 = .ok (.istore 4, 2) := by decide +kernel
theorem dX1_dueByWeeks_13 : decode cX1_dueByWeeks 13 = .ok (.iload_n 1, 1) := by decide +kernel
theorem dX1_dueByWeeks_14 : decode cX1_dueByWeeks 14 = .ok (.iload_n 3, 1) := by decide +kernel
theorem dX1_dueByWeeks_15 : decode cX1_dueByWeeks 15 = .ok (.bipush 7, 2) := by decide +kernel
theorem dX1_dueByWeeks_17 : decode cX1_dueByWeeks 17 = .ok (.imul, 1) := by decide +kernel
theorem dX1_dueByWeeks_18 : decode cX1_dueByWeeks 18 = .ok (.iadd, 1) := by decide +kernel
theorem dX1_dueByWeeks_19 : decode cX1_dueByWeeks 19 = .ok (.istore 5, 2) := by decide +kernel
theorem dX1_dueByWeeks_21 : decode cX1_dueByWeeks 21 = .ok (.iload 5, 2) := by decide +kernel
theorem dX1_dueByWeeks_23 : decode cX1_dueByWeeks 23 = .ok (.iload_n 1, 1) := by decide +kernel
theorem dX1_dueByWeeks_24 : decode cX1_dueByWeeks 24 = .ok (.iload_n 2, 1) := by decide +kernel
theorem dX1_dueByWeeks_25 : decode cX1_dueByWeeks 25 = .ok (.iadd, 1) := by decide +kernel
theorem dX1_dueByWeeks_26 : decode cX1_dueByWeeks 26 = .ok (.if_icmp .ge 24, 3) := by decide +kernel
theorem dX1_dueByWeeks_29 : decode cX1_dueByWeeks 29 = .ok (.iload 4, 2) := by decide +kernel
theorem dX1_dueByWeeks_31 : decode cX1_dueByWeeks 31 = .ok (.aload_n 0, 1) := by decide +kernel
theorem dX1_dueByWeeks_32 : decode cX1_dueByWeeks 32 = .ok (.getfield 9, 3) := by decide +kernel
theorem dX1_dueByWeeks_35 : decode cX1_dueByWeeks 35 = .ok (.iload 5, 2) := by decide +kernel
theorem dX1_dueByWeeks_37 : decode cX1_dueByWeeks 37 = .ok (.invokestatic 60, 3) := by decide +kernel
theorem dX1_dueByWeeks_40 : decode cX1_dueByWeeks 40 = .ok (.iaload, 1) := by decide +kernel
theorem dX1_dueByWeeks_41 : decode cX1_dueByWeeks 41 = .ok (.iadd, 1) := by decide +kernel
theorem dX1_dueByWeeks_42 : decode cX1_dueByWeeks 42 = .ok (.istore 4, 2) := by decide +kernel
theorem dX1_dueByWeeks_44 : decode cX1_dueByWeeks 44 = .ok (.iinc 5 1, 3) := by decide +kernel
theorem dX1_dueByWeeks_47 : decode cX1_dueByWeeks 47 = .ok (.goto (-26), 3) := by decide +kernel
theorem dX1_dueByWeeks_50 : decode cX1_dueByWeeks 50 = .ok (.iload 4, 2) := by decide +kernel
theorem dX1_dueByWeeks_52 : decode cX1_dueByWeeks 52 = .ok (.aload_n 0, 1) := by decide +kernel
theorem dX1_dueByWeeks_53 : decode cX1_dueByWeeks 53 = .ok (.iload_n 1, 1) := by decide +kernel
theorem dX1_dueByWeeks_54 : decode cX1_dueByWeeks 54 = .ok (.iload_n 1, 1) := by decide +kernel
theorem dX1_dueByWeeks_55 : decode cX1_dueByWeeks 55 = .ok (.iload_n 2, 1) := by decide +kernel
theorem dX1_dueByWeeks_56 : decode cX1_dueByWeeks 56 = .ok (.iadd, 1) := by decide +kernel
theorem dX1_dueByWeeks_57 : decode cX1_dueByWeeks 57 = .ok (.iconst 1, 1) := by decide +kernel
theorem dX1_dueByWeeks_58 : decode cX1_dueByWeeks 58 = .ok (.isub, 1) := by decide +kernel
theorem dX1_dueByWeeks_59 : decode cX1_dueByWeeks 59 = .ok (.invokevirtual 67, 3) := by decide +kernel
theorem dX1_dueByWeeks_62 : decode cX1_dueByWeeks 62 = .ok (.isub, 1) := by decide +kernel
theorem dX1_dueByWeeks_63 : decode cX1_dueByWeeks 63 = .ok (.ireturn, 1) := by decide +kernel
theorem dX1_orderedInHolidays_0 : decode cX1_orderedInHolidays 0 = .ok (.iconst 0, 1) := by decide +kernel
theorem dX1_orderedInHolidays_1 : decode cX1_orderedInHolidays 1 = .ok (.istore_n 3, 1) := by decide +kernel
theorem dX1_orderedInHolidays_2 : decode cX1_orderedInHolidays 2 = .ok (.iconst 0, 1) := by decide +kernel
theorem dX1_orderedInHolidays_3 : decode cX1_orderedInHolidays 3 = .ok (.istore 4, 2) := by decide +kernel
theorem dX1_orderedInHolidays_5 : decode cX1_orderedInHolidays 5 = .ok (.iload 4, 2) := by decide +kernel
theorem dX1_orderedInHolidays_7 : decode cX1_orderedInHolidays 7 = .ok (.aload_n 0, 1) := by decide +kernel
theorem dX1_orderedInHolidays_8 : decode cX1_orderedInHolidays 8 = .ok (.getfield 43, 3) := by decide +kernel
theorem dX1_orderedInHolidays_11 : decode cX1_orderedInHolidays 11 = .ok (.if_icmp .ge 72, 3) := by decide +kernel
theorem dX1_orderedInHolidays_14 : decode cX1_orderedInHolidays 14 = .ok (.iload_n 2, 1) := by decide +kernel
theorem dX1_orderedInHolidays_15 : decode cX1_orderedInHolidays 15 = .ok (.aload_n 0, 1) := by decide +kernel
theorem dX1_orderedInHolidays_16 : decode cX1_orderedInHolidays 16 = .ok (.getfield 18, 3) := by decide +kernel
theorem dX1_orderedInHolidays_19 : decode cX1_orderedInHolidays 19 = .ok (.iload 4, 2) := by decide +kernel
theorem dX1_orderedInHolidays_21 : decode cX1_orderedInHolidays 21 = .ok (.iaload, 1) := by decide +kernel
theorem dX1_orderedInHolidays_22 : decode cX1_orderedInHolidays 22 = .ok (.invokestatic 71, 3) := by decide +kernel
theorem dX1_orderedInHolidays_25 : decode cX1_orderedInHolidays 25 = .ok (.istore 5, 2) := by decide +kernel
theorem dX1_orderedInHolidays_27 : decode cX1_orderedInHolidays 27 = .ok (.iload_n 1, 1) := by decide +kernel
theorem dX1_orderedInHolidays_28 : decode cX1_orderedInHolidays 28 = .ok (.aload_n 0, 1) := by decide +kernel
theorem dX1_orderedInHolidays_29 : decode cX1_orderedInHolidays 29 = .ok (.getfield 15, 3) := by decide +kernel
theorem dX1_orderedInHolidays_32 : decode cX1_orderedInHolidays 32 = .ok (.iload 4, 2) := by decide +kernel
theorem dX1_orderedInHolidays_34 : decode cX1_orderedInHolidays 34 = .ok (.iaload, 1) := by decide +kernel
theorem dX1_orderedInHolidays_35 : decode cX1_orderedInHolidays 35 = .ok (.invokestatic 76, 3) := by decide +kernel
theorem dX1_orderedInHolidays_38 : decode cX1_orderedInHolidays 38 = .ok (.istore 6, 2) := by decide +kernel
theorem dX1_orderedInHolidays_40 : decode cX1_orderedInHolidays 40 = .ok (.iload 6, 2) := by decide +kernel
theorem dX1_orderedInHolidays_42 : decode cX1_orderedInHolidays 42 = .ok (.iload 5, 2) := by decide +kernel
theorem dX1_orderedInHolidays_44 : decode cX1_orderedInHolidays 44 = .ok (.if_icmp .gt 33, 3) := by decide +kernel
theorem dX1_orderedInHolidays_47 : decode cX1_orderedInHolidays 47 = .ok (.aload_n 0, 1) := by decide +kernel
theorem dX1_orderedInHolidays_48 : decode cX1_orderedInHolidays 48 = .ok (.iload 6, 2) := by decide +kernel
theorem dX1_orderedInHolidays_50 : decode cX1_orderedInHolidays 50 = .ok (.iload 4, 2) := by decide +kernel
theorem dX1_orderedInHolidays_52 : decode cX1_orderedInHolidays 52 = .ok (.invokevirtual 56, 3) := by decide +kernel
theorem dX1_orderedInHolidays_55 : decode cX1_orderedInHolidays 55 = .ok (.ifCond .ne 16, 3) := by decide +kernel
theorem dX1_orderedInHolidays_58 : decode cX1_orderedInHolidays 58 = .ok (.iload_n 3, 1) := by decide +kernel
theorem dX1_orderedInHolidays_59 : decode cX1_orderedInHolidays 59 = .ok (.aload_n 0, 1) := by decide +kernel
theorem dX1_orderedInHolidays_60 : decode cX1_orderedInHolidays 60 = .ok (.getfield 9, 3) := by decide +kernel
theorem dX1_orderedInHolidays_63 : decode cX1_orderedInHolidays 63 = .ok (.iload 6, 2) := by decide +kernel
theorem dX1_orderedInHolidays_65 : decode cX1_orderedInHolidays 65 = .ok (.invokestatic 60, 3) := by decide +kernel
theorem dX1_orderedInHolidays_68 : decode cX1_orderedInHolidays 68 = .ok (.iaload, 1) := by decide +kernel
theorem dX1_orderedInHolidays_69 : decode cX1_orderedInHolidays 69 = .ok (.iadd, 1) := by decide +kernel
theorem dX1_orderedInHolidays_70 : decode cX1_orderedInHolidays 70 = .ok (.istore_n 3, 1) := by decide +kernel
theorem dX1_orderedInHolidays_71 : decode cX1_orderedInHolidays 71 = .ok (.iinc 6 1, 3) := by decide +kernel
theorem dX1_orderedInHolidays_74 : decode cX1_orderedInHolidays 74 = .ok (.goto (-34), 3) := by decide +kernel
theorem dX1_orderedInHolidays_77 : decode cX1_orderedInHolidays 77 = .ok (.iinc 4 1, 3) := by decide +kernel
theorem dX1_orderedInHolidays_80 : decode cX1_orderedInHolidays 80 = .ok (.goto (-75), 3) := by decide +kernel
theorem dX1_orderedInHolidays_83 : decode cX1_orderedInHolidays 83 = .ok (.iload_n 3, 1) := by decide +kernel
theorem dX1_orderedInHolidays_84 : decode cX1_orderedInHolidays 84 = .ok (.ireturn, 1) := by decide +kernel
theorem dX1_receive_0 : decode cX1_receive 0 = .ok (.aload_n 0, 1) := by decide +kernel
theorem dX1_receive_1 : decode cX1_receive 1 = .ok (.dup, 1) := by decide +kernel
theorem dX1_receive_2 : decode cX1_receive 2 = .ok (.getfield 28, 3) := by decide +kernel
theorem dX1_receive_5 : decode cX1_receive 5 = .ok (.iload_n 2, 1) := by decide +kernel
theorem dX1_receive_6 : decode cX1_receive 6 = .ok (.iadd, 1) := by decide +kernel
theorem dX1_receive_7 : decode cX1_receive 7 = .ok (.putfield 28, 3) := by decide +kernel
theorem dX1_receive_10 : decode cX1_receive 10 = .ok (.aload_n 0, 1) := by decide +kernel
theorem dX1_receive_11 : decode cX1_receive 11 = .ok (.dup, 1) := by decide +kernel
theorem dX1_receive_12 : decode cX1_receive 12 = .ok (.getfield 25, 3) := by decide +kernel
theorem dX1_receive_15 : decode cX1_receive 15 = .ok (.iload_n 1, 1) := by decide +kernel
theorem dX1_receive_16 : decode cX1_receive 16 = .ok (.iload_n 2, 1) := by decide +kernel
theorem dX1_receive_17 : decode cX1_receive 17 = .ok (.isub, 1) := by decide +kernel
theorem dX1_receive_18 : decode cX1_receive 18 = .ok (.iadd, 1) := by decide +kernel
theorem dX1_receive_19 : decode cX1_receive 19 = .ok (.putfield 25, 3) := by decide +kernel
theorem dX1_receive_22 : decode cX1_receive 22 = .ok (.iload_n 1, 1) := by decide +kernel
theorem dX1_receive_23 : decode cX1_receive 23 = .ok (.ifCond .le 20, 3) := by decide +kernel
theorem dX1_receive_26 : decode cX1_receive 26 = .ok (.iload_n 2, 1) := by decide +kernel
theorem dX1_receive_27 : decode cX1_receive 27 = .ok (.ifCond .ne 16, 3) := by decide +kernel
theorem dX1_receive_30 : decode cX1_receive 30 = .ok (.aload_n 0, 1) := by decide +kernel
theorem dX1_receive_31 : decode cX1_receive 31 = .ok (.dup, 1) := by decide +kernel
theorem dX1_receive_32 : decode cX1_receive 32 = .ok (.getfield 37, 3) := by decide +kernel
theorem dX1_receive_35 : decode cX1_receive 35 = .ok (.iconst 1, 1) := by decide +kernel
theorem dX1_receive_36 : decode cX1_receive 36 = .ok (.iadd, 1) := by decide +kernel
theorem dX1_receive_37 : decode cX1_receive 37 = .ok (.putfield 37, 3) := by decide +kernel
theorem dX1_receive_40 : decode cX1_receive 40 = .ok (.goto 18, 3) := by decide +kernel
theorem dX1_receive_43 : decode cX1_receive 43 = .ok (.iload_n 2, 1) := by decide +kernel
theorem dX1_receive_44 : decode cX1_receive 44 = .ok (.iload_n 1, 1) := by decide +kernel
theorem dX1_receive_45 : decode cX1_receive 45 = .ok (.if_icmp .ge 13, 3) := by decide +kernel
theorem dX1_receive_48 : decode cX1_receive 48 = .ok (.aload_n 0, 1) := by decide +kernel
theorem dX1_receive_49 : decode cX1_receive 49 = .ok (.dup, 1) := by decide +kernel
theorem dX1_receive_50 : decode cX1_receive 50 = .ok (.getfield 40, 3) := by decide +kernel
theorem dX1_receive_53 : decode cX1_receive 53 = .ok (.iconst 1, 1) := by decide +kernel
theorem dX1_receive_54 : decode cX1_receive 54 = .ok (.iadd, 1) := by decide +kernel
theorem dX1_receive_55 : decode cX1_receive 55 = .ok (.putfield 40, 3) := by decide +kernel
theorem dX1_receive_58 : decode cX1_receive 58 = .ok (.return_, 1) := by decide +kernel
theorem dX1_receiveForCredit_0 : decode cX1_receiveForCredit 0 = .ok (.aload_n 0, 1) := by decide +kernel
theorem dX1_receiveForCredit_1 : decode cX1_receiveForCredit 1 = .ok (.dup, 1) := by decide +kernel
theorem dX1_receiveForCredit_2 : decode cX1_receiveForCredit 2 = .ok (.getfield 31, 3) := by decide +kernel
theorem dX1_receiveForCredit_5 : decode cX1_receiveForCredit 5 = .ok (.iload_n 1, 1) := by decide +kernel
theorem dX1_receiveForCredit_6 : decode cX1_receiveForCredit 6 = .ok (.iadd, 1) := by decide +kernel
theorem dX1_receiveForCredit_7 : decode cX1_receiveForCredit 7 = .ok (.putfield 31, 3) := by decide +kernel
theorem dX1_receiveForCredit_10 : decode cX1_receiveForCredit 10 = .ok (.aload_n 0, 1) := by decide +kernel
theorem dX1_receiveForCredit_11 : decode cX1_receiveForCredit 11 = .ok (.dup, 1) := by decide +kernel
theorem dX1_receiveForCredit_12 : decode cX1_receiveForCredit 12 = .ok (.getfield 25, 3) := by decide +kernel
theorem dX1_receiveForCredit_15 : decode cX1_receiveForCredit 15 = .ok (.iload_n 1, 1) := by decide +kernel
theorem dX1_receiveForCredit_16 : decode cX1_receiveForCredit 16 = .ok (.isub, 1) := by decide +kernel
theorem dX1_receiveForCredit_17 : decode cX1_receiveForCredit 17 = .ok (.putfield 25, 3) := by decide +kernel
theorem dX1_receiveForCredit_20 : decode cX1_receiveForCredit 20 = .ok (.return_, 1) := by decide +kernel
theorem dX1_cutCredit_0 : decode cX1_cutCredit 0 = .ok (.iconst 0, 1) := by decide +kernel
theorem dX1_cutCredit_1 : decode cX1_cutCredit 1 = .ok (.aload_n 0, 1) := by decide +kernel
theorem dX1_cutCredit_2 : decode cX1_cutCredit 2 = .ok (.getfield 25, 3) := by decide +kernel
theorem dX1_cutCredit_5 : decode cX1_cutCredit 5 = .ok (.iload_n 1, 1) := by decide +kernel
theorem dX1_cutCredit_6 : decode cX1_cutCredit 6 = .ok (.isub, 1) := by decide +kernel
theorem dX1_cutCredit_7 : decode cX1_cutCredit 7 = .ok (.invokestatic 76, 3) := by decide +kernel
theorem dX1_cutCredit_10 : decode cX1_cutCredit 10 = .ok (.istore_n 2, 1) := by decide +kernel
theorem dX1_cutCredit_11 : decode cX1_cutCredit 11 = .ok (.aload_n 0, 1) := by decide +kernel
theorem dX1_cutCredit_12 : decode cX1_cutCredit 12 = .ok (.dup, 1) := by decide +kernel
theorem dX1_cutCredit_13 : decode cX1_cutCredit 13 = .ok (.getfield 25, 3) := by decide +kernel
theorem dX1_cutCredit_16 : decode cX1_cutCredit 16 = .ok (.iload_n 2, 1) := by decide +kernel
theorem dX1_cutCredit_17 : decode cX1_cutCredit 17 = .ok (.isub, 1) := by decide +kernel
theorem dX1_cutCredit_18 : decode cX1_cutCredit 18 = .ok (.putfield 25, 3) := by decide +kernel
theorem dX1_cutCredit_21 : decode cX1_cutCredit 21 = .ok (.aload_n 0, 1) := by decide +kernel
theorem dX1_cutCredit_22 : decode cX1_cutCredit 22 = .ok (.dup, 1) := by decide +kernel
theorem dX1_cutCredit_23 : decode cX1_cutCredit 23 = .ok (.getfield 34, 3) := by decide +kernel
theorem dX1_cutCredit_26 : decode cX1_cutCredit 26 = .ok (.iload_n 2, 1) := by decide +kernel
theorem dX1_cutCredit_27 : decode cX1_cutCredit 27 = .ok (.iadd, 1) := by decide +kernel
theorem dX1_cutCredit_28 : decode cX1_cutCredit 28 = .ok (.putfield 34, 3) := by decide +kernel
theorem dX1_cutCredit_31 : decode cX1_cutCredit 31 = .ok (.iload_n 2, 1) := by decide +kernel
theorem dX1_cutCredit_32 : decode cX1_cutCredit 32 = .ok (.ireturn, 1) := by decide +kernel

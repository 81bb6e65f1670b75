theorem dL_dues_0 : decode cL_dues 0 = .ok (.aload_n 0, 1) := by decide +kernel
theorem dL_dues_1 : decode cL_dues 1 = .ok (.iload_n 1, 1) := by decide +kernel
theorem dL_dues_2 : decode cL_dues 2 = .ok (.iload_n 2, 1) := by decide +kernel
theorem dL_dues_3 : decode cL_dues 3 = .ok (.iload_n 3, 1) := by decide +kernel
theorem dL_dues_4 : decode cL_dues 4 = .ok (.iload 4, 2) := by decide +kernel
theorem dL_dues_6 : decode cL_dues 6 = .ok (.invokevirtual 7, 3) := by decide +kernel
theorem dL_dues_9 : decode cL_dues 9 = .ok (.ireturn, 1) := by decide +kernel
theorem dL_dues_10 : decode cL_dues 10 = .ok (.astore 5, 2) := by decide +kernel
theorem dL_dues_12 : decode cL_dues 12 = .ok (.ldc 15, 2) := by decide +kernel
theorem dL_dues_14 : decode cL_dues 14 = .ok (.ireturn, 1) := by decide +kernel
theorem dL_dues_15 : decode cL_dues 15 = .ok (.astore 5, 2) := by decide +kernel
theorem dL_dues_17 : decode cL_dues 17 = .ok (.ldc 18, 2) := by decide +kernel
theorem dL_dues_19 : decode cL_dues 19 = .ok (.ireturn, 1) := by decide +kernel
theorem dL_closes_0 : decode cL_closes 0 = .ok (.aload_n 0, 1) := by decide +kernel
theorem dL_closes_1 : decode cL_closes 1 = .ok (.iload_n 1, 1) := by decide +kernel
theorem dL_closes_2 : decode cL_closes 2 = .ok (.iload_n 2, 1) := by decide +kernel
theorem dL_closes_3 : decode cL_closes 3 = .ok (.iload_n 3, 1) := by decide +kernel
theorem dL_closes_4 : decode cL_closes 4 = .ok (.invokevirtual 19, 3) := by decide +kernel
theorem dL_closes_7 : decode cL_closes 7 = .ok (.ireturn, 1) := by decide +kernel
theorem dL_closes_8 : decode cL_closes 8 = .ok (.astore 4, 2) := by decide +kernel
theorem dL_closes_10 : decode cL_closes 10 = .ok (.ldc 15, 2) := by decide +kernel
theorem dL_closes_12 : decode cL_closes 12 = .ok (.ireturn, 1) := by decide +kernel
theorem dL_doScript_0 : decode cL_doScript 0 = .ok (.aload_n 0, 1) := by decide +kernel
theorem dL_doScript_1 : decode cL_doScript 1 = .ok (.iload_n 1, 1) := by decide +kernel
theorem dL_doScript_2 : decode cL_doScript 2 = .ok (.lload_n 2, 1) := by decide +kernel
theorem dL_doScript_3 : decode cL_doScript 3 = .ok (.invokevirtual 23, 3) := by decide +kernel
theorem dL_doScript_6 : decode cL_doScript 6 = .ok (.ireturn, 1) := by decide +kernel
theorem dL_doScript_7 : decode cL_doScript 7 = .ok (.astore 4, 2) := by decide +kernel
theorem dL_doScript_9 : decode cL_doScript 9 = .ok (.ldc 18, 2) := by decide +kernel
theorem dL_doScript_11 : decode cL_doScript 11 = .ok (.ireturn, 1) := by decide +kernel
theorem dL_doSimulate_0 : decode cL_doSimulate 0 = .ok (.aload_n 0, 1) := by decide +kernel
theorem dL_doSimulate_1 : decode cL_doSimulate 1 = .ok (.lload_n 1, 1) := by decide +kernel
theorem dL_doSimulate_2 : decode cL_doSimulate 2 = .ok (.iload_n 3, 1) := by decide +kernel
theorem dL_doSimulate_3 : decode cL_doSimulate 3 = .ok (.invokevirtual 27, 3) := by decide +kernel
theorem dL_doSimulate_6 : decode cL_doSimulate 6 = .ok (.ireturn, 1) := by decide +kernel
theorem dL_doSimulate_7 : decode cL_doSimulate 7 = .ok (.astore 4, 2) := by decide +kernel
theorem dL_doSimulate_9 : decode cL_doSimulate 9 = .ok (.ldc 18, 2) := by decide +kernel
theorem dL_doSimulate_11 : decode cL_doSimulate 11 = .ok (.ireturn, 1) := by decide +kernel
theorem dL_tryAppend_0 : decode cL_tryAppend 0 = .ok (.aload_n 0, 1) := by decide +kernel
theorem dL_tryAppend_1 : decode cL_tryAppend 1 = .ok (.iload_n 1, 1) := by decide +kernel
theorem dL_tryAppend_2 : decode cL_tryAppend 2 = .ok (.invokevirtual 31, 3) := by decide +kernel
theorem dL_tryAppend_5 : decode cL_tryAppend 5 = .ok (.ireturn, 1) := by decide +kernel
theorem dL_tryAppend_6 : decode cL_tryAppend 6 = .ok (.astore_n 2, 1) := by decide +kernel
theorem dL_tryAppend_7 : decode cL_tryAppend 7 = .ok (.ldc 18, 2) := by decide +kernel
theorem dL_tryAppend_9 : decode cL_tryAppend 9 = .ok (.ireturn, 1) := by decide +kernel
theorem dL_tryAppend_10 : decode cL_tryAppend 10 = .ok (.astore_n 2, 1) := by decide +kernel
theorem dL_tryAppend_11 : decode cL_tryAppend 11 = .ok (.ldc 37, 2) := by decide +kernel
theorem dL_tryAppend_13 : decode cL_tryAppend 13 = .ok (.ireturn, 1) := by decide +kernel
theorem dL_tryLoad_0 : decode cL_tryLoad 0 = .ok (.aload_n 0, 1) := by decide +kernel
theorem dL_tryLoad_1 : decode cL_tryLoad 1 = .ok (.invokevirtual 38, 3) := by decide +kernel
theorem dL_tryLoad_4 : decode cL_tryLoad 4 = .ok (.ireturn, 1) := by decide +kernel
theorem dL_tryLoad_5 : decode cL_tryLoad 5 = .ok (.astore_n 1, 1) := by decide +kernel
theorem dL_tryLoad_6 : decode cL_tryLoad 6 = .ok (.ldc 37, 2) := by decide +kernel
theorem dL_tryLoad_8 : decode cL_tryLoad 8 = .ok (.ireturn, 1) := by decide +kernel
theorem dL_tryAbout_0 : decode cL_tryAbout 0 = .ok (.aload_n 0, 1) := by decide +kernel
theorem dL_tryAbout_1 : decode cL_tryAbout 1 = .ok (.iload_n 1, 1) := by decide +kernel
theorem dL_tryAbout_2 : decode cL_tryAbout 2 = .ok (.invokevirtual 42, 3) := by decide +kernel
theorem dL_tryAbout_5 : decode cL_tryAbout 5 = .ok (.ireturn, 1) := by decide +kernel
theorem dL_tryAbout_6 : decode cL_tryAbout 6 = .ok (.astore_n 2, 1) := by decide +kernel
theorem dL_tryAbout_7 : decode cL_tryAbout 7 = .ok (.ldc 18, 2) := by decide +kernel
theorem dL_tryAbout_9 : decode cL_tryAbout 9 = .ok (.ireturn, 1) := by decide +kernel
theorem dL_tryTold_0 : decode cL_tryTold 0 = .ok (.aload_n 0, 1) := by decide +kernel
theorem dL_tryTold_1 : decode cL_tryTold 1 = .ok (.iload_n 1, 1) := by decide +kernel
theorem dL_tryTold_2 : decode cL_tryTold 2 = .ok (.iload_n 2, 1) := by decide +kernel
theorem dL_tryTold_3 : decode cL_tryTold 3 = .ok (.invokevirtual 45, 3) := by decide +kernel
theorem dL_tryTold_6 : decode cL_tryTold 6 = .ok (.ireturn, 1) := by decide +kernel
theorem dL_tryTold_7 : decode cL_tryTold 7 = .ok (.astore_n 3, 1) := by decide +kernel
theorem dL_tryTold_8 : decode cL_tryTold 8 = .ok (.ldc 15, 2) := by decide +kernel
theorem dL_tryTold_10 : decode cL_tryTold 10 = .ok (.ireturn, 1) := by decide +kernel
theorem dL_tryTold_11 : decode cL_tryTold 11 = .ok (.astore_n 3, 1) := by decide +kernel
theorem dL_tryTold_12 : decode cL_tryTold 12 = .ok (.ldc 18, 2) := by decide +kernel
theorem dL_tryTold_14 : decode cL_tryTold 14 = .ok (.ireturn, 1) := by decide +kernel
theorem dL_tryOrdered_0 : decode cL_tryOrdered 0 = .ok (.aload_n 0, 1) := by decide +kernel
theorem dL_tryOrdered_1 : decode cL_tryOrdered 1 = .ok (.iload_n 1, 1) := by decide +kernel
theorem dL_tryOrdered_2 : decode cL_tryOrdered 2 = .ok (.iload_n 2, 1) := by decide +kernel
theorem dL_tryOrdered_3 : decode cL_tryOrdered 3 = .ok (.invokevirtual 49, 3) := by decide +kernel
theorem dL_tryOrdered_6 : decode cL_tryOrdered 6 = .ok (.ireturn, 1) := by decide +kernel
theorem dL_tryOrdered_7 : decode cL_tryOrdered 7 = .ok (.astore_n 3, 1) := by decide +kernel
theorem dL_tryOrdered_8 : decode cL_tryOrdered 8 = .ok (.ldc 15, 2) := by decide +kernel
theorem dL_tryOrdered_10 : decode cL_tryOrdered 10 = .ok (.ireturn, 1) := by decide +kernel
theorem dL_tryAway_0 : decode cL_tryAway 0 = .ok (.aload_n 0, 1) := by decide +kernel
theorem dL_tryAway_1 : decode cL_tryAway 1 = .ok (.iload_n 1, 1) := by decide +kernel
theorem dL_tryAway_2 : decode cL_tryAway 2 = .ok (.iload_n 2, 1) := by decide +kernel
theorem dL_tryAway_3 : decode cL_tryAway 3 = .ok (.iload_n 3, 1) := by decide +kernel
theorem dL_tryAway_4 : decode cL_tryAway 4 = .ok (.invokevirtual 52, 3) := by decide +kernel
theorem dL_tryAway_7 : decode cL_tryAway 7 = .ok (.ireturn, 1) := by decide +kernel
theorem dL_tryAway_8 : decode cL_tryAway 8 = .ok (.astore 4, 2) := by decide +kernel
theorem dL_tryAway_10 : decode cL_tryAway 10 = .ok (.ldc 15, 2) := by decide +kernel
theorem dL_tryAway_12 : decode cL_tryAway 12 = .ok (.ireturn, 1) := by decide +kernel
theorem dL_tryAway_13 : decode cL_tryAway 13 = .ok (.astore 4, 2) := by decide +kernel
theorem dL_tryAway_15 : decode cL_tryAway 15 = .ok (.ldc 18, 2) := by decide +kernel
theorem dL_tryAway_17 : decode cL_tryAway 17 = .ok (.ireturn, 1) := by decide +kernel
theorem dL_tryClosed_0 : decode cL_tryClosed 0 = .ok (.aload_n 0, 1) := by decide +kernel
theorem dL_tryClosed_1 : decode cL_tryClosed 1 = .ok (.iload_n 1, 1) := by decide +kernel
theorem dL_tryClosed_2 : decode cL_tryClosed 2 = .ok (.iload_n 2, 1) := by decide +kernel
theorem dL_tryClosed_3 : decode cL_tryClosed 3 = .ok (.invokevirtual 56, 3) := by decide +kernel
theorem dL_tryClosed_6 : decode cL_tryClosed 6 = .ok (.ireturn, 1) := by decide +kernel
theorem dL_tryClosed_7 : decode cL_tryClosed 7 = .ok (.astore_n 3, 1) := by decide +kernel
theorem dL_tryClosed_8 : decode cL_tryClosed 8 = .ok (.ldc 15, 2) := by decide +kernel
theorem dL_tryClosed_10 : decode cL_tryClosed 10 = .ok (.ireturn, 1) := by decide +kernel
theorem dL_tryRound_0 : decode cL_tryRound 0 = .ok (.aload_n 0, 1) := by decide +kernel
theorem dL_tryRound_1 : decode cL_tryRound 1 = .ok (.iload_n 1, 1) := by decide +kernel
theorem dL_tryRound_2 : decode cL_tryRound 2 = .ok (.invokevirtual 59, 3) := by decide +kernel
theorem dL_tryRound_5 : decode cL_tryRound 5 = .ok (.ireturn, 1) := by decide +kernel
theorem dL_tryRound_6 : decode cL_tryRound 6 = .ok (.astore_n 2, 1) := by decide +kernel
theorem dL_tryRound_7 : decode cL_tryRound 7 = .ok (.ldc 15, 2) := by decide +kernel
theorem dL_tryRound_9 : decode cL_tryRound 9 = .ok (.ireturn, 1) := by decide +kernel
theorem dL_trySetting_0 : decode cL_trySetting 0 = .ok (.aload_n 0, 1) := by decide +kernel
theorem dL_trySetting_1 : decode cL_trySetting 1 = .ok (.iload_n 1, 1) := by decide +kernel
theorem dL_trySetting_2 : decode cL_trySetting 2 = .ok (.invokevirtual 62, 3) := by decide +kernel
theorem dL_trySetting_5 : decode cL_trySetting 5 = .ok (.ireturn, 1) := by decide +kernel
theorem dL_trySetting_6 : decode cL_trySetting 6 = .ok (.astore_n 2, 1) := by decide +kernel
theorem dL_trySetting_7 : decode cL_trySetting 7 = .ok (.ldc 18, 2) := by decide +kernel
theorem dL_trySetting_9 : decode cL_trySetting 9 = .ok (.ireturn, 1) := by decide +kernel
theorem dL_tryCome_0 : decode cL_tryCome 0 = .ok (.aload_n 0, 1) := by decide +kernel
theorem dL_tryCome_1 : decode cL_tryCome 1 = .ok (.iload_n 1, 1) := by decide +kernel
theorem dL_tryCome_2 : decode cL_tryCome 2 = .ok (.iload_n 2, 1) := by decide +kernel
theorem dL_tryCome_3 : decode cL_tryCome 3 = .ok (.invokevirtual 65, 3) := by decide +kernel
theorem dL_tryCome_6 : decode cL_tryCome 6 = .ok (.ireturn, 1) := by decide +kernel
theorem dL_tryCome_7 : decode cL_tryCome 7 = .ok (.astore_n 3, 1) := by decide +kernel
theorem dL_tryCome_8 : decode cL_tryCome 8 = .ok (.ldc 15, 2) := by decide +kernel
theorem dL_tryCome_10 : decode cL_tryCome 10 = .ok (.ireturn, 1) := by decide +kernel
theorem dL_tryCome_11 : decode cL_tryCome 11 = .ok (.astore_n 3, 1) := by decide +kernel
theorem dL_tryCome_12 : decode cL_tryCome 12 = .ok (.ldc 18, 2) := by decide +kernel
theorem dL_tryCome_14 : decode cL_tryCome 14 = .ok (.ireturn, 1) := by decide +kernel
theorem dL_tryCome_15 : decode cL_tryCome 15 = .ok (.astore_n 3, 1) := by decide +kernel
theorem dL_tryCome_16 : decode cL_tryCome 16 = .ok (.ldc 37, 2) := by decide +kernel
theorem dL_tryCome_18 : decode cL_tryCome 18 = .ok (.ireturn, 1) := by decide +kernel
theorem dL_tryChange_0 : decode cL_tryChange 0 = .ok (.aload_n 0, 1) := by decide +kernel
theorem dL_tryChange_1 : decode cL_tryChange 1 = .ok (.iload_n 1, 1) := by decide +kernel
theorem dL_tryChange_2 : decode cL_tryChange 2 = .ok (.iload_n 2, 1) := by decide +kernel
theorem dL_tryChange_3 : decode cL_tryChange 3 = .ok (.iload_n 3, 1) := by decide +kernel
theorem dL_tryChange_4 : decode cL_tryChange 4 = .ok (.invokevirtual 68, 3) := by decide +kernel
theorem dL_tryChange_7 : decode cL_tryChange 7 = .ok (.ireturn, 1) := by decide +kernel
theorem dL_tryChange_8 : decode cL_tryChange 8 = .ok (.astore 4, 2) := by decide +kernel
theorem dL_tryChange_10 : decode cL_tryChange 10 = .ok (.ldc 15, 2) := by decide +kernel
theorem dL_tryChange_12 : decode cL_tryChange 12 = .ok (.ireturn, 1) := by decide +kernel
theorem dL_tryChange_13 : decode cL_tryChange 13 = .ok (.astore 4, 2) := by decide +kernel
theorem dL_tryChange_15 : decode cL_tryChange 15 = .ok (.ldc 18, 2) := by decide +kernel
theorem dL_tryChange_17 : decode cL_tryChange 17 = .ok (.ireturn, 1) := by decide +kernel
theorem dL_tryHoliday_0 : decode cL_tryHoliday 0 = .ok (.aload_n 0, 1) := by decide +kernel
theorem dL_tryHoliday_1 : decode cL_tryHoliday 1 = .ok (.iload_n 1, 1) := by decide +kernel
theorem dL_tryHoliday_2 : decode cL_tryHoliday 2 = .ok (.iload_n 2, 1) := by decide +kernel
theorem dL_tryHoliday_3 : decode cL_tryHoliday 3 = .ok (.iload_n 3, 1) := by decide +kernel
theorem dL_tryHoliday_4 : decode cL_tryHoliday 4 = .ok (.invokevirtual 71, 3) := by decide +kernel
theorem dL_tryHoliday_7 : decode cL_tryHoliday 7 = .ok (.ireturn, 1) := by decide +kernel
theorem dL_tryHoliday_8 : decode cL_tryHoliday 8 = .ok (.astore 4, 2) := by decide +kernel
theorem dL_tryHoliday_10 : decode cL_tryHoliday 10 = .ok (.ldc 15, 2) := by decide +kernel
theorem dL_tryHoliday_12 : decode cL_tryHoliday 12 = .ok (.ireturn, 1) := by decide +kernel
theorem dL_tryHoliday_13 : decode cL_tryHoliday 13 = .ok (.astore 4, 2) := by decide +kernel
theorem dL_tryHoliday_15 : decode cL_tryHoliday 15 = .ok (.ldc 18, 2) := by decide +kernel
theorem dL_tryHoliday_17 : decode cL_tryHoliday 17 = .ok (.ireturn, 1) := by decide +kernel
theorem dL_tryHoliday_18 : decode cL_tryHoliday 18 = .ok (.astore 4, 2) := by decide +kernel
theorem dL_tryHoliday_20 : decode cL_tryHoliday 20 = .ok (.ldc 37, 2) := by decide +kernel
theorem dL_tryHoliday_22 : decode cL_tryHoliday 22 = .ok (.ireturn, 1) := by decide +kernel
theorem dL_tryDrop_0 : decode cL_tryDrop 0 = .ok (.aload_n 0, 1) := by decide +kernel
theorem dL_tryDrop_1 : decode cL_tryDrop 1 = .ok (.iload_n 1, 1) := by decide +kernel
theorem dL_tryDrop_2 : decode cL_tryDrop 2 = .ok (.iload_n 2, 1) := by decide +kernel
theorem dL_tryDrop_3 : decode cL_tryDrop 3 = .ok (.invokevirtual 74, 3) := by decide +kernel
theorem dL_tryDrop_6 : decode cL_tryDrop 6 = .ok (.ireturn, 1) := by decide +kernel
theorem dL_tryDrop_7 : decode cL_tryDrop 7 = .ok (.astore_n 3, 1) := by decide +kernel
theorem dL_tryDrop_8 : decode cL_tryDrop 8 = .ok (.ldc 15, 2) := by decide +kernel
theorem dL_tryDrop_10 : decode cL_tryDrop 10 = .ok (.ireturn, 1) := by decide +kernel
theorem dL_trySwap_0 : decode cL_trySwap 0 = .ok (.aload_n 0, 1) := by decide +kernel
theorem dL_trySwap_1 : decode cL_trySwap 1 = .ok (.iload_n 1, 1) := by decide +kernel
theorem dL_trySwap_2 : decode cL_trySwap 2 = .ok (.iload_n 2, 1) := by decide +kernel
theorem dL_trySwap_3 : decode cL_trySwap 3 = .ok (.invokevirtual 77, 3) := by decide +kernel
theorem dL_trySwap_6 : decode cL_trySwap 6 = .ok (.ireturn, 1) := by decide +kernel
theorem dL_trySwap_7 : decode cL_trySwap 7 = .ok (.astore_n 3, 1) := by decide +kernel
theorem dL_trySwap_8 : decode cL_trySwap 8 = .ok (.ldc 15, 2) := by decide +kernel
theorem dL_trySwap_10 : decode cL_trySwap 10 = .ok (.ireturn, 1) := by decide +kernel
theorem dL_tryLay_0 : decode cL_tryLay 0 = .ok (.aload_n 0, 1) := by decide +kernel
theorem dL_tryLay_1 : decode cL_tryLay 1 = .ok (.iload_n 1, 1) := by decide +kernel
theorem dL_tryLay_2 : decode cL_tryLay 2 = .ok (.iload_n 2, 1) := by decide +kernel
theorem dL_tryLay_3 : decode cL_tryLay 3 = .ok (.invokevirtual 80, 3) := by decide +kernel
theorem dL_tryLay_6 : decode cL_tryLay 6 = .ok (.ireturn, 1) := by decide +kernel
theorem dL_tryLay_7 : decode cL_tryLay 7 = .ok (.astore_n 3, 1) := by decide +kernel
theorem dL_tryLay_8 : decode cL_tryLay 8 = .ok (.ldc 18, 2) := by decide +kernel
theorem dL_tryLay_10 : decode cL_tryLay 10 = .ok (.ireturn, 1) := by decide +kernel
theorem dL_tryDays_0 : decode cL_tryDays 0 = .ok (.aload_n 0, 1) := by decide +kernel
theorem dL_tryDays_1 : decode cL_tryDays 1 = .ok (.iload_n 1, 1) := by decide +kernel
theorem dL_tryDays_2 : decode cL_tryDays 2 = .ok (.invokevirtual 83, 3) := by decide +kernel
theorem dL_tryDays_5 : decode cL_tryDays 5 = .ok (.ireturn, 1) := by decide +kernel
theorem dL_tryDays_6 : decode cL_tryDays 6 = .ok (.astore_n 2, 1) := by decide +kernel
theorem dL_tryDays_7 : decode cL_tryDays 7 = .ok (.ldc 18, 2) := by decide +kernel
theorem dL_tryDays_9 : decode cL_tryDays 9 = .ok (.ireturn, 1) := by decide +kernel
theorem dL_tryUndo_0 : decode cL_tryUndo 0 = .ok (.aload_n 0, 1) := by decide +kernel
theorem dL_tryUndo_1 : decode cL_tryUndo 1 = .ok (.invokevirtual 86, 3) := by decide +kernel
theorem dL_tryUndo_4 : decode cL_tryUndo 4 = .ok (.ireturn, 1) := by decide +kernel
theorem dL_tryUndo_5 : decode cL_tryUndo 5 = .ok (.astore_n 1, 1) := by decide +kernel
theorem dL_tryUndo_6 : decode cL_tryUndo 6 = .ok (.ldc 37, 2) := by decide +kernel
theorem dL_tryUndo_8 : decode cL_tryUndo 8 = .ok (.ireturn, 1) := by decide +kernel
theorem dL_tryWhy_0 : decode cL_tryWhy 0 = .ok (.aload_n 0, 1) := by decide +kernel
theorem dL_tryWhy_1 : decode cL_tryWhy 1 = .ok (.iload_n 1, 1) := by decide +kernel
theorem dL_tryWhy_2 : decode cL_tryWhy 2 = .ok (.invokevirtual 89, 3) := by decide +kernel
theorem dL_tryWhy_5 : decode cL_tryWhy 5 = .ok (.ireturn, 1) := by decide +kernel
theorem dL_tryWhy_6 : decode cL_tryWhy 6 = .ok (.astore_n 2, 1) := by decide +kernel
theorem dL_tryWhy_7 : decode cL_tryWhy 7 = .ok (.ldc 15, 2) := by decide +kernel
theorem dL_tryWhy_9 : decode cL_tryWhy 9 = .ok (.ireturn, 1) := by decide +kernel
theorem dL_tryCredit_0 : decode cL_tryCredit 0 = .ok (.aload_n 0, 1) := by decide +kernel
theorem dL_tryCredit_1 : decode cL_tryCredit 1 = .ok (.iload_n 1, 1) := by decide +kernel
theorem dL_tryCredit_2 : decode cL_tryCredit 2 = .ok (.iload_n 2, 1) := by decide +kernel
theorem dL_tryCredit_3 : decode cL_tryCredit 3 = .ok (.invokevirtual 92, 3) := by decide +kernel
theorem dL_tryCredit_6 : decode cL_tryCredit 6 = .ok (.ireturn, 1) := by decide +kernel
theorem dL_tryCredit_7 : decode cL_tryCredit 7 = .ok (.astore_n 3, 1) := by decide +kernel
theorem dL_tryCredit_8 : decode cL_tryCredit 8 = .ok (.ldc 15, 2) := by decide +kernel
theorem dL_tryCredit_10 : decode cL_tryCredit 10 = .ok (.ireturn, 1) := by decide +kernel
theorem dL_tryCredit_11 : decode cL_tryCredit 11 = .ok (.astore_n 3, 1) := by decide +kernel
theorem dL_tryCredit_12 : decode cL_tryCredit 12 = .ok (.ldc 18, 2) := by decide +kernel
theorem dL_tryCredit_14 : decode cL_tryCredit 14 = .ok (.ireturn, 1) := by decide +kernel
theorem dL_tryClear_0 : decode cL_tryClear 0 = .ok (.aload_n 0, 1) := by decide +kernel
theorem dL_tryClear_1 : decode cL_tryClear 1 = .ok (.iload_n 1, 1) := by decide +kernel
theorem dL_tryClear_2 : decode cL_tryClear 2 = .ok (.invokevirtual 95, 3) := by decide +kernel
theorem dL_tryClear_5 : decode cL_tryClear 5 = .ok (.ireturn, 1) := by decide +kernel
theorem dL_tryClear_6 : decode cL_tryClear 6 = .ok (.astore_n 2, 1) := by decide +kernel
theorem dL_tryClear_7 : decode cL_tryClear 7 = .ok (.ldc 15, 2) := by decide +kernel
theorem dL_tryClear_9 : decode cL_tryClear 9 = .ok (.ireturn, 1) := by decide +kernel
theorem dL_tryOven_0 : decode cL_tryOven 0 = .ok (.aload_n 0, 1) := by decide +kernel
theorem dL_tryOven_1 : decode cL_tryOven 1 = .ok (.iload_n 1, 1) := by decide +kernel
theorem dL_tryOven_2 : decode cL_tryOven 2 = .ok (.invokevirtual 98, 3) := by decide +kernel
theorem dL_tryOven_5 : decode cL_tryOven 5 = .ok (.ireturn, 1) := by decide +kernel
theorem dL_tryOven_6 : decode cL_tryOven 6 = .ok (.astore_n 2, 1) := by decide +kernel
theorem dL_tryOven_7 : decode cL_tryOven 7 = .ok (.ldc 18, 2) := by decide +kernel
theorem dL_tryOven_9 : decode cL_tryOven 9 = .ok (.ireturn, 1) := by decide +kernel
theorem dL_tryBest_0 : decode cL_tryBest 0 = .ok (.aload_n 0, 1) := by decide +kernel
theorem dL_tryBest_1 : decode cL_tryBest 1 = .ok (.iload_n 1, 1) := by decide +kernel
theorem dL_tryBest_2 : decode cL_tryBest 2 = .ok (.invokevirtual 101, 3) := by decide +kernel
theorem dL_tryBest_5 : decode cL_tryBest 5 = .ok (.ireturn, 1) := by decide +kernel
theorem dL_tryBest_6 : decode cL_tryBest 6 = .ok (.astore_n 2, 1) := by decide +kernel
theorem dL_tryBest_7 : decode cL_tryBest 7 = .ok (.ldc 18, 2) := by decide +kernel
theorem dL_tryBest_9 : decode cL_tryBest 9 = .ok (.ireturn, 1) := by decide +kernel
theorem dL_tryKeep_0 : decode cL_tryKeep 0 = .ok (.aload_n 0, 1) := by decide +kernel
theorem dL_tryKeep_1 : decode cL_tryKeep 1 = .ok (.iload_n 1, 1) := by decide +kernel
theorem dL_tryKeep_2 : decode cL_tryKeep 2 = .ok (.invokevirtual 104, 3) := by decide +kernel
theorem dL_tryKeep_5 : decode cL_tryKeep 5 = .ok (.ireturn, 1) := by decide +kernel
theorem dL_tryKeep_6 : decode cL_tryKeep 6 = .ok (.astore_n 2, 1) := by decide +kernel
theorem dL_tryKeep_7 : decode cL_tryKeep 7 = .ok (.ldc 15, 2) := by decide +kernel
theorem dL_tryKeep_9 : decode cL_tryKeep 9 = .ok (.ireturn, 1) := by decide +kernel
theorem dL_tryBack_0 : decode cL_tryBack 0 = .ok (.aload_n 0, 1) := by decide +kernel
theorem dL_tryBack_1 : decode cL_tryBack 1 = .ok (.iload_n 1, 1) := by decide +kernel
theorem dL_tryBack_2 : decode cL_tryBack 2 = .ok (.invokevirtual 107, 3) := by decide +kernel
theorem dL_tryBack_5 : decode cL_tryBack 5 = .ok (.ireturn, 1) := by decide +kernel
theorem dL_tryBack_6 : decode cL_tryBack 6 = .ok (.astore_n 2, 1) := by decide +kernel
theorem dL_tryBack_7 : decode cL_tryBack 7 = .ok (.ldc 15, 2) := by decide +kernel
theorem dL_tryBack_9 : decode cL_tryBack 9 = .ok (.ireturn, 1) := by decide +kernel
theorem dL_tryBack_10 : decode cL_tryBack 10 = .ok (.astore_n 2, 1) := by decide +kernel
theorem dL_tryBack_11 : decode cL_tryBack 11 = .ok (.ldc 37, 2) := by decide +kernel
theorem dL_tryBack_13 : decode cL_tryBack 13 = .ok (.ireturn, 1) := by decide +kernel
theorem dL_call_0 : decode cL_call 0 = .ok (.iload_n 1, 1) := by decide +kernel
theorem dL_call_1 : decode cL_call 1 = .ok (.tableswitch 260 0 22 #[107, 113, 118, 124, 131, 138, 147, 154, 160, 166, 173, 182, 191, 198, 205, 212, 218, 223, 229, 236, 242, 248, 254], 107) := by decide +kernel
theorem dL_call_108 : decode cL_call 108 = .ok (.aload_n 0, 1) := by decide +kernel
theorem dL_call_109 : decode cL_call 109 = .ok (.iload_n 2, 1) := by decide +kernel
theorem dL_call_110 : decode cL_call 110 = .ok (.invokestatic 110, 3) := by decide +kernel
theorem dL_call_113 : decode cL_call 113 = .ok (.ireturn, 1) := by decide +kernel
theorem dL_call_114 : decode cL_call 114 = .ok (.aload_n 0, 1) := by decide +kernel
theorem dL_call_115 : decode cL_call 115 = .ok (.invokestatic 116, 3) := by decide +kernel
theorem dL_call_118 : decode cL_call 118 = .ok (.ireturn, 1) := by decide +kernel
theorem dL_call_119 : decode cL_call 119 = .ok (.aload_n 0, 1) := by decide +kernel
theorem dL_call_120 : decode cL_call 120 = .ok (.iload_n 2, 1) := by decide +kernel
theorem dL_call_121 : decode cL_call 121 = .ok (.invokestatic 120, 3) := by decide +kernel
theorem dL_call_124 : decode cL_call 124 = .ok (.ireturn, 1) := by decide +kernel
theorem dL_call_125 : decode cL_call 125 = .ok (.aload_n 0, 1) := by decide +kernel
theorem dL_call_126 : decode cL_call 126 = .ok (.iload_n 2, 1) := by decide +kernel
theorem dL_call_127 : decode cL_call 127 = .ok (.iload_n 3, 1) := by decide +kernel
theorem dL_call_128 : decode cL_call 128 = .ok (.invokestatic 123, 3) := by decide +kernel
theorem dL_call_131 : decode cL_call 131 = .ok (.ireturn, 1) := by decide +kernel
theorem dL_call_132 : decode cL_call 132 = .ok (.aload_n 0, 1) := by decide +kernel
theorem dL_call_133 : decode cL_call 133 = .ok (.iload_n 2, 1) := by decide +kernel
theorem dL_call_134 : decode cL_call 134 = .ok (.iload_n 3, 1) := by decide +kernel
theorem dL_call_135 : decode cL_call 135 = .ok (.invokestatic 127, 3) := by decide +kernel
theorem dL_call_138 : decode cL_call 138 = .ok (.ireturn, 1) := by decide +kernel
theorem dL_call_139 : decode cL_call 139 = .ok (.aload_n 0, 1) := by decide +kernel
theorem dL_call_140 : decode cL_call 140 = .ok (.iload_n 2, 1) := by decide +kernel
theorem dL_call_141 : decode cL_call 141 = .ok (.iload_n 3, 1) := by decide +kernel
theorem dL_call_142 : decode cL_call 142 = .ok (.iload 4, 2) := by decide +kernel
theorem dL_call_144 : decode cL_call 144 = .ok (.invokestatic 130, 3) := by decide +kernel
theorem dL_call_147 : decode cL_call 147 = .ok (.ireturn, 1) := by decide +kernel
theorem dL_call_148 : decode cL_call 148 = .ok (.aload_n 0, 1) := by decide +kernel
theorem dL_call_149 : decode cL_call 149 = .ok (.iload_n 2, 1) := by decide +kernel
theorem dL_call_150 : decode cL_call 150 = .ok (.iload_n 3, 1) := by decide +kernel
theorem dL_call_151 : decode cL_call 151 = .ok (.invokestatic 134, 3) := by decide +kernel
theorem dL_call_154 : decode cL_call 154 = .ok (.ireturn, 1) := by decide +kernel
theorem dL_call_155 : decode cL_call 155 = .ok (.aload_n 0, 1) := by decide +kernel
theorem dL_call_156 : decode cL_call 156 = .ok (.iload_n 2, 1) := by decide +kernel
theorem dL_call_157 : decode cL_call 157 = .ok (.invokestatic 137, 3) := by decide +kernel
theorem dL_call_160 : decode cL_call 160 = .ok (.ireturn, 1) := by decide +kernel
theorem dL_call_161 : decode cL_call 161 = .ok (.aload_n 0, 1) := by decide +kernel
theorem dL_call_162 : decode cL_call 162 = .ok (.iload_n 2, 1) := by decide +kernel
theorem dL_call_163 : decode cL_call 163 = .ok (.invokestatic 140, 3) := by decide +kernel
theorem dL_call_166 : decode cL_call 166 = .ok (.ireturn, 1) := by decide +kernel
theorem dL_call_167 : decode cL_call 167 = .ok (.aload_n 0, 1) := by decide +kernel
theorem dL_call_168 : decode cL_call 168 = .ok (.iload_n 2, 1) := by decide +kernel
theorem dL_call_169 : decode cL_call 169 = .ok (.iload_n 3, 1) := by decide +kernel
theorem dL_call_170 : decode cL_call 170 = .ok (.invokestatic 143, 3) := by decide +kernel
theorem dL_call_173 : decode cL_call 173 = .ok (.ireturn, 1) := by decide +kernel
theorem dL_call_174 : decode cL_call 174 = .ok (.aload_n 0, 1) := by decide +kernel
theorem dL_call_175 : decode cL_call 175 = .ok (.iload_n 2, 1) := by decide +kernel
theorem dL_call_176 : decode cL_call 176 = .ok (.iload_n 3, 1) := by decide +kernel
theorem dL_call_177 : decode cL_call 177 = .ok (.iload 4, 2) := by decide +kernel
theorem dL_call_179 : decode cL_call 179 = .ok (.invokestatic 146, 3) := by decide +kernel
theorem dL_call_182 : decode cL_call 182 = .ok (.ireturn, 1) := by decide +kernel
theorem dL_call_183 : decode cL_call 183 = .ok (.aload_n 0, 1) := by decide +kernel
theorem dL_call_184 : decode cL_call 184 = .ok (.iload_n 2, 1) := by decide +kernel
theorem dL_call_185 : decode cL_call 185 = .ok (.iload_n 3, 1) := by decide +kernel
theorem dL_call_186 : decode cL_call 186 = .ok (.iload 4, 2) := by decide +kernel
theorem dL_call_188 : decode cL_call 188 = .ok (.invokestatic 149, 3) := by decide +kernel
theorem dL_call_191 : decode cL_call 191 = .ok (.ireturn, 1) := by decide +kernel
theorem dL_call_192 : decode cL_call 192 = .ok (.aload_n 0, 1) := by decide +kernel
theorem dL_call_193 : decode cL_call 193 = .ok (.iload_n 2, 1) := by decide +kernel
theorem dL_call_194 : decode cL_call 194 = .ok (.iload_n 3, 1) := by decide +kernel
theorem dL_call_195 : decode cL_call 195 = .ok (.invokestatic 152, 3) := by decide +kernel
theorem dL_call_198 : decode cL_call 198 = .ok (.ireturn, 1) := by decide +kernel
theorem dL_call_199 : decode cL_call 199 = .ok (.aload_n 0, 1) := by decide +kernel
theorem dL_call_200 : decode cL_call 200 = .ok (.iload_n 2, 1) := by decide +kernel
theorem dL_call_201 : decode cL_call 201 = .ok (.iload_n 3, 1) := by decide +kernel
theorem dL_call_202 : decode cL_call 202 = .ok (.invokestatic 155, 3) := by decide +kernel
theorem dL_call_205 : decode cL_call 205 = .ok (.ireturn, 1) := by decide +kernel
theorem dL_call_206 : decode cL_call 206 = .ok (.aload_n 0, 1) := by decide +kernel
theorem dL_call_207 : decode cL_call 207 = .ok (.iload_n 2, 1) := by decide +kernel
theorem dL_call_208 : decode cL_call 208 = .ok (.iload_n 3, 1) := by decide +kernel
theorem dL_call_209 : decode cL_call 209 = .ok (.invokestatic 158, 3) := by decide +kernel
theorem dL_call_212 : decode cL_call 212 = .ok (.ireturn, 1) := by decide +kernel
theorem dL_call_213 : decode cL_call 213 = .ok (.aload_n 0, 1) := by decide +kernel
theorem dL_call_214 : decode cL_call 214 = .ok (.iload_n 2, 1) := by decide +kernel
theorem dL_call_215 : decode cL_call 215 = .ok (.invokestatic 161, 3) := by decide +kernel
theorem dL_call_218 : decode cL_call 218 = .ok (.ireturn, 1) := by decide +kernel
theorem dL_call_219 : decode cL_call 219 = .ok (.aload_n 0, 1) := by decide +kernel
theorem dL_call_220 : decode cL_call 220 = .ok (.invokestatic 164, 3) := by decide +kernel
theorem dL_call_223 : decode cL_call 223 = .ok (.ireturn, 1) := by decide +kernel
theorem dL_call_224 : decode cL_call 224 = .ok (.aload_n 0, 1) := by decide +kernel
theorem dL_call_225 : decode cL_call 225 = .ok (.iload_n 2, 1) := by decide +kernel
theorem dL_call_226 : decode cL_call 226 = .ok (.invokestatic 167, 3) := by decide +kernel
theorem dL_call_229 : decode cL_call 229 = .ok (.ireturn, 1) := by decide +kernel
theorem dL_call_230 : decode cL_call 230 = .ok (.aload_n 0, 1) := by decide +kernel
theorem dL_call_231 : decode cL_call 231 = .ok (.iload_n 2, 1) := by decide +kernel
theorem dL_call_232 : decode cL_call 232 = .ok (.iload_n 3, 1) := by decide +kernel
theorem dL_call_233 : decode cL_call 233 = .ok (.invokestatic 170, 3) := by decide +kernel
theorem dL_call_236 : decode cL_call 236 = .ok (.ireturn, 1) := by decide +kernel
theorem dL_call_237 : decode cL_call 237 = .ok (.aload_n 0, 1) := by decide +kernel
theorem dL_call_238 : decode cL_call 238 = .ok (.iload_n 2, 1) := by decide +kernel
theorem dL_call_239 : decode cL_call 239 = .ok (.invokestatic 173, 3) := by decide +kernel
theorem dL_call_242 : decode cL_call 242 = .ok (.ireturn, 1) := by decide +kernel
theorem dL_call_243 : decode cL_call 243 = .ok (.aload_n 0, 1) := by decide +kernel
theorem dL_call_244 : decode cL_call 244 = .ok (.iload_n 2, 1) := by decide +kernel
theorem dL_call_245 : decode cL_call 245 = .ok (.invokestatic 176, 3) := by decide +kernel
theorem dL_call_248 : decode cL_call 248 = .ok (.ireturn, 1) := by decide +kernel
theorem dL_call_249 : decode cL_call 249 = .ok (.aload_n 0, 1) := by decide +kernel
theorem dL_call_250 : decode cL_call 250 = .ok (.iload_n 2, 1) := by decide +kernel
theorem dL_call_251 : decode cL_call 251 = .ok (.invokestatic 179, 3) := by decide +kernel
theorem dL_call_254 : decode cL_call 254 = .ok (.ireturn, 1) := by decide +kernel
theorem dL_call_255 : decode cL_call 255 = .ok (.aload_n 0, 1) := by decide +kernel
theorem dL_call_256 : decode cL_call 256 = .ok (.iload_n 2, 1) := by decide +kernel
theorem dL_call_257 : decode cL_call 257 = .ok (.invokestatic 182, 3) := by decide +kernel
theorem dL_call_260 : decode cL_call 260 = .ok (.ireturn, 1) := by decide +kernel
theorem dL_call_261 : decode cL_call 261 = .ok (.aload_n 0, 1) := by decide +kernel
theorem dL_call_262 : decode cL_call 262 = .ok (.iload_n 2, 1) := by decide +kernel
theorem dL_call_263 : decode cL_call 263 = .ok (.invokestatic 185, 3) := by decide +kernel
theorem dL_call_266 : decode cL_call 266 = .ok (.ireturn, 1) := by decide +kernel
theorem dL_cell_0 : decode cL_cell 0 = .ok (.iload_n 1, 1) := by decide +kernel
theorem dL_cell_1 : decode cL_cell 1 = .ok (.aload_n 0, 1) := by decide +kernel
theorem dL_cell_2 : decode cL_cell 2 = .ok (.arraylength, 1) := by decide +kernel
theorem dL_cell_3 : decode cL_cell 3 = .ok (.if_icmp .ge 9, 3) := by decide +kernel
theorem dL_cell_6 : decode cL_cell 6 = .ok (.aload_n 0, 1) := by decide +kernel
theorem dL_cell_7 : decode cL_cell 7 = .ok (.iload_n 1, 1) := by decide +kernel
theorem dL_cell_8 : decode cL_cell 8 = .ok (.iaload, 1) := by decide +kernel
theorem dL_cell_9 : decode cL_cell 9 = .ok (.goto 13, 3) := by decide +kernel
theorem dL_cell_12 : decode cL_cell 12 = .ok (.ldc 188, 2) := by decide +kernel
theorem dL_cell_14 : decode cL_cell 14 = .ok (.iload_n 1, 1) := by decide +kernel
theorem dL_cell_15 : decode cL_cell 15 = .ok (.iconst 3, 1) := by decide +kernel
theorem dL_cell_16 : decode cL_cell 16 = .ok (.iadd, 1) := by decide +kernel
theorem dL_cell_17 : decode cL_cell 17 = .ok (.imul, 1) := by decide +kernel
theorem dL_cell_18 : decode cL_cell 18 = .ok (.sipush 11923, 3) := by decide +kernel
theorem dL_cell_21 : decode cL_cell 21 = .ok (.iadd, 1) := by decide +kernel
theorem dL_cell_22 : decode cL_cell 22 = .ok (.ldc 189, 2) := by decide +kernel
theorem dL_cell_24 : decode cL_cell 24 = .ok (.iand, 1) := by decide +kernel
theorem dL_cell_25 : decode cL_cell 25 = .ok (.ireturn, 1) := by decide +kernel
theorem dL_thrown_0 : decode cL_thrown 0 = .ok (.iload_n 0, 1) := by decide +kernel
theorem dL_thrown_1 : decode cL_thrown 1 = .ok (.ldc 15, 2) := by decide +kernel
theorem dL_thrown_3 : decode cL_thrown 3 = .ok (.if_icmp .eq 15, 3) := by decide +kernel
theorem dL_thrown_6 : decode cL_thrown 6 = .ok (.iload_n 0, 1) := by decide +kernel
theorem dL_thrown_7 : decode cL_thrown 7 = .ok (.ldc 18, 2) := by decide +kernel
theorem dL_thrown_9 : decode cL_thrown 9 = .ok (.if_icmp .eq 9, 3) := by decide +kernel
theorem dL_thrown_12 : decode cL_thrown 12 = .ok (.iload_n 0, 1) := by decide +kernel
theorem dL_thrown_13 : decode cL_thrown 13 = .ok (.ldc 37, 2) := by decide +kernel
theorem dL_thrown_15 : decode cL_thrown 15 = .ok (.if_icmp .ne 7, 3) := by decide +kernel
theorem dL_thrown_18 : decode cL_thrown 18 = .ok (.iconst 1, 1) := by decide +kernel
theorem dL_thrown_19 : decode cL_thrown 19 = .ok (.goto 4, 3) := by decide +kernel
theorem dL_thrown_22 : decode cL_thrown 22 = .ok (.iconst 0, 1) := by decide +kernel
theorem dL_thrown_23 : decode cL_thrown 23 = .ok (.ireturn, 1) := by decide +kernel
theorem dL_refuses_0 : decode cL_refuses 0 = .ok (.aload_n 0, 1) := by decide +kernel
theorem dL_refuses_1 : decode cL_refuses 1 = .ok (.iconst 2, 1) := by decide +kernel
theorem dL_refuses_2 : decode cL_refuses 2 = .ok (.iconst 0, 1) := by decide +kernel
theorem dL_refuses_3 : decode cL_refuses 3 = .ok (.iconst 0, 1) := by decide +kernel
theorem dL_refuses_4 : decode cL_refuses 4 = .ok (.iconst 0, 1) := by decide +kernel
theorem dL_refuses_5 : decode cL_refuses 5 = .ok (.invokestatic 190, 3) := by decide +kernel
theorem dL_refuses_8 : decode cL_refuses 8 = .ok (.istore_n 2, 1) := by decide +kernel
theorem dL_refuses_9 : decode cL_refuses 9 = .ok (.iload_n 1, 1) := by decide +kernel
theorem dL_refuses_10 : decode cL_refuses 10 = .ok (.iconst 2, 1) := by decide +kernel
theorem dL_refuses_11 : decode cL_refuses 11 = .ok (.irem, 1) := by decide +kernel
theorem dL_refuses_12 : decode cL_refuses 12 = .ok (.ifCond .ne 12, 3) := by decide +kernel
theorem dL_refuses_15 : decode cL_refuses 15 = .ok (.iconst (-1), 1) := by decide +kernel
theorem dL_refuses_16 : decode cL_refuses 16 = .ok (.iload_n 1, 1) := by decide +kernel
theorem dL_refuses_17 : decode cL_refuses 17 = .ok (.bipush 99, 2) := by decide +kernel
theorem dL_refuses_19 : decode cL_refuses 19 = .ok (.irem, 1) := by decide +kernel
theorem dL_refuses_20 : decode cL_refuses 20 = .ok (.isub, 1) := by decide +kernel
theorem dL_refuses_21 : decode cL_refuses 21 = .ok (.goto 9, 3) := by decide +kernel
theorem dL_refuses_24 : decode cL_refuses 24 = .ok (.iload_n 2, 1) := by decide +kernel
theorem dL_refuses_25 : decode cL_refuses 25 = .ok (.iload_n 1, 1) := by decide +kernel
theorem dL_refuses_26 : decode cL_refuses 26 = .ok (.bipush 99, 2) := by decide +kernel
theorem dL_refuses_28 : decode cL_refuses 28 = .ok (.irem, 1) := by decide +kernel
theorem dL_refuses_29 : decode cL_refuses 29 = .ok (.iadd, 1) := by decide +kernel
theorem dL_refuses_30 : decode cL_refuses 30 = .ok (.istore_n 3, 1) := by decide +kernel
theorem dL_refuses_31 : decode cL_refuses 31 = .ok (.iload_n 1, 1) := by decide +kernel
theorem dL_refuses_32 : decode cL_refuses 32 = .ok (.iconst 2, 1) := by decide +kernel
theorem dL_refuses_33 : decode cL_refuses 33 = .ok (.irem, 1) := by decide +kernel
theorem dL_refuses_34 : decode cL_refuses 34 = .ok (.ifCond .ne 12, 3) := by decide +kernel
theorem dL_refuses_37 : decode cL_refuses 37 = .ok (.iconst (-1), 1) := by decide +kernel
theorem dL_refuses_38 : decode cL_refuses 38 = .ok (.iload_n 1, 1) := by decide +kernel
theorem dL_refuses_39 : decode cL_refuses 39 = .ok (.bipush 99, 2) := by decide +kernel
theorem dL_refuses_41 : decode cL_refuses 41 = .ok (.irem, 1) := by decide +kernel
theorem dL_refuses_42 : decode cL_refuses 42 = .ok (.isub, 1) := by decide +kernel
theorem dL_refuses_43 : decode cL_refuses 43 = .ok (.goto 9, 3) := by decide +kernel
theorem dL_refuses_46 : decode cL_refuses 46 = .ok (.iconst 4, 1) := by decide +kernel
theorem dL_refuses_47 : decode cL_refuses 47 = .ok (.iload_n 1, 1) := by decide +kernel
theorem dL_refuses_48 : decode cL_refuses 48 = .ok (.bipush 99, 2) := by decide +kernel
theorem dL_refuses_50 : decode cL_refuses 50 = .ok (.irem, 1) := by decide +kernel
theorem dL_refuses_51 : decode cL_refuses 51 = .ok (.iadd, 1) := by decide +kernel
theorem dL_refuses_52 : decode cL_refuses 52 = .ok (.istore 4, 2) := by decide +kernel
theorem dL_refuses_54 : decode cL_refuses 54 = .ok (.iload_n 1, 1) := by decide +kernel
theorem dL_refuses_55 : decode cL_refuses 55 = .ok (.iconst 2, 1) := by decide +kernel
theorem dL_refuses_56 : decode cL_refuses 56 = .ok (.irem, 1) := by decide +kernel
theorem dL_refuses_57 : decode cL_refuses 57 = .ok (.ifCond .ne 12, 3) := by decide +kernel
theorem dL_refuses_60 : decode cL_refuses 60 = .ok (.iconst (-1), 1) := by decide +kernel
theorem dL_refuses_61 : decode cL_refuses 61 = .ok (.iload_n 1, 1) := by decide +kernel
theorem dL_refuses_62 : decode cL_refuses 62 = .ok (.bipush 99, 2) := by decide +kernel
theorem dL_refuses_64 : decode cL_refuses 64 = .ok (.irem, 1) := by decide +kernel
theorem dL_refuses_65 : decode cL_refuses 65 = .ok (.isub, 1) := by decide +kernel
theorem dL_refuses_66 : decode cL_refuses 66 = .ok (.goto 10, 3) := by decide +kernel
theorem dL_refuses_69 : decode cL_refuses 69 = .ok (.bipush 7, 2) := by decide +kernel
theorem dL_refuses_71 : decode cL_refuses 71 = .ok (.iload_n 1, 1) := by decide +kernel
theorem dL_refuses_72 : decode cL_refuses 72 = .ok (.bipush 99, 2) := by decide +kernel
theorem dL_refuses_74 : decode cL_refuses 74 = .ok (.irem, 1) := by decide +kernel
theorem dL_refuses_75 : decode cL_refuses 75 = .ok (.iadd, 1) := by decide +kernel
theorem dL_refuses_76 : decode cL_refuses 76 = .ok (.istore 5, 2) := by decide +kernel
theorem dL_refuses_78 : decode cL_refuses 78 = .ok (.aload_n 0, 1) := by decide +kernel
theorem dL_refuses_79 : decode cL_refuses 79 = .ok (.iconst 3, 1) := by decide +kernel
theorem dL_refuses_80 : decode cL_refuses 80 = .ok (.iconst 0, 1) := by decide +kernel
theorem dL_refuses_81 : decode cL_refuses 81 = .ok (.bipush 8, 2) := by decide +kernel
theorem dL_refuses_83 : decode cL_refuses 83 = .ok (.iconst 0, 1) := by decide +kernel
theorem dL_refuses_84 : decode cL_refuses 84 = .ok (.invokestatic 190, 3) := by decide +kernel
theorem dL_refuses_87 : decode cL_refuses 87 = .ok (.istore 6, 2) := by decide +kernel
theorem dL_refuses_89 : decode cL_refuses 89 = .ok (.aload_n 0, 1) := by decide +kernel
theorem dL_refuses_90 : decode cL_refuses 90 = .ok (.iconst 0, 1) := by decide +kernel
theorem dL_refuses_91 : decode cL_refuses 91 = .ok (.iload_n 1, 1) := by decide +kernel
theorem dL_refuses_92 : decode cL_refuses 92 = .ok (.iconst 2, 1) := by decide +kernel
theorem dL_refuses_93 : decode cL_refuses 93 = .ok (.irem, 1) := by decide +kernel
theorem dL_refuses_94 : decode cL_refuses 94 = .ok (.ifCond .ne 12, 3) := by decide +kernel
theorem dL_refuses_97 : decode cL_refuses 97 = .ok (.iconst (-1), 1) := by decide +kernel
theorem dL_refuses_98 : decode cL_refuses 98 = .ok (.iload_n 1, 1) := by decide +kernel
theorem dL_refuses_99 : decode cL_refuses 99 = .ok (.bipush 9, 2) := by decide +kernel
theorem dL_refuses_101 : decode cL_refuses 101 = .ok (.irem, 1) := by decide +kernel
theorem dL_refuses_102 : decode cL_refuses 102 = .ok (.isub, 1) := by decide +kernel
theorem dL_refuses_103 : decode cL_refuses 103 = .ok (.goto 11, 3) := by decide +kernel
theorem dL_refuses_106 : decode cL_refuses 106 = .ok (.sipush 256, 3) := by decide +kernel
theorem dL_refuses_109 : decode cL_refuses 109 = .ok (.iload_n 1, 1) := by decide +kernel
theorem dL_refuses_110 : decode cL_refuses 110 = .ok (.bipush 9, 2) := by decide +kernel
theorem dL_refuses_112 : decode cL_refuses 112 = .ok (.irem, 1) := by decide +kernel
theorem dL_refuses_113 : decode cL_refuses 113 = .ok (.iadd, 1) := by decide +kernel
theorem dL_refuses_114 : decode cL_refuses 114 = .ok (.iconst 0, 1) := by decide +kernel
theorem dL_refuses_115 : decode cL_refuses 115 = .ok (.iconst 0, 1) := by decide +kernel
theorem dL_refuses_116 : decode cL_refuses 116 = .ok (.invokestatic 190, 3) := by decide +kernel
theorem dL_refuses_119 : decode cL_refuses 119 = .ok (.ldc 18, 2) := by decide +kernel
theorem dL_refuses_121 : decode cL_refuses 121 = .ok (.if_icmp .ne 960, 3) := by decide +kernel
theorem dL_refuses_124 : decode cL_refuses 124 = .ok (.aload_n 0, 1) := by decide +kernel
theorem dL_refuses_125 : decode cL_refuses 125 = .ok (.iconst 2, 1) := by decide +kernel
theorem dL_refuses_126 : decode cL_refuses 126 = .ok (.bipush 13, 2) := by decide +kernel
theorem dL_refuses_128 : decode cL_refuses 128 = .ok (.iload_n 1, 1) := by decide +kernel
theorem dL_refuses_129 : decode cL_refuses 129 = .ok (.bipush 50, 2) := by decide +kernel
theorem dL_refuses_131 : decode cL_refuses 131 = .ok (.irem, 1) := by decide +kernel
theorem dL_refuses_132 : decode cL_refuses 132 = .ok (.iadd, 1) := by decide +kernel
theorem dL_refuses_133 : decode cL_refuses 133 = .ok (.iconst 0, 1) := by decide +kernel
theorem dL_refuses_134 : decode cL_refuses 134 = .ok (.iconst 0, 1) := by decide +kernel
theorem dL_refuses_135 : decode cL_refuses 135 = .ok (.invokestatic 190, 3) := by decide +kernel
theorem dL_refuses_138 : decode cL_refuses 138 = .ok (.ldc 18, 2) := by decide +kernel
theorem dL_refuses_140 : decode cL_refuses 140 = .ok (.if_icmp .ne 941, 3) := by decide +kernel
theorem dL_refuses_143 : decode cL_refuses 143 = .ok (.aload_n 0, 1) := by decide +kernel
theorem dL_refuses_144 : decode cL_refuses 144 = .ok (.iconst 3, 1) := by decide +kernel
theorem dL_refuses_145 : decode cL_refuses 145 = .ok (.iload_n 3, 1) := by decide +kernel
theorem dL_refuses_146 : decode cL_refuses 146 = .ok (.bipush 99, 2) := by decide +kernel
theorem dL_refuses_148 : decode cL_refuses 148 = .ok (.iconst 0, 1) := by decide +kernel
theorem dL_refuses_149 : decode cL_refuses 149 = .ok (.invokestatic 190, 3) := by decide +kernel
theorem dL_refuses_152 : decode cL_refuses 152 = .ok (.ldc 15, 2) := by decide +kernel
theorem dL_refuses_154 : decode cL_refuses 154 = .ok (.if_icmp .ne 927, 3) := by decide +kernel
theorem dL_refuses_157 : decode cL_refuses 157 = .ok (.aload_n 0, 1) := by decide +kernel
theorem dL_refuses_158 : decode cL_refuses 158 = .ok (.iconst 3, 1) := by decide +kernel
theorem dL_refuses_159 : decode cL_refuses 159 = .ok (.iconst 0, 1) := by decide +kernel
theorem dL_refuses_160 : decode cL_refuses 160 = .ok (.bipush 11, 2) := by decide +kernel
theorem dL_refuses_162 : decode cL_refuses 162 = .ok (.iload_n 1, 1) := by decide +kernel
theorem dL_refuses_163 : decode cL_refuses 163 = .ok (.bipush 9, 2) := by decide +kernel
theorem dL_refuses_165 : decode cL_refuses 165 = .ok (.irem, 1) := by decide +kernel
theorem dL_refuses_166 : decode cL_refuses 166 = .ok (.iadd, 1) := by decide +kernel
theorem dL_refuses_167 : decode cL_refuses 167 = .ok (.iconst 0, 1) := by decide +kernel
theorem dL_refuses_168 : decode cL_refuses 168 = .ok (.invokestatic 190, 3) := by decide +kernel
theorem dL_refuses_171 : decode cL_refuses 171 = .ok (.ldc 18, 2) := by decide +kernel
theorem dL_refuses_173 : decode cL_refuses 173 = .ok (.if_icmp .ne 908, 3) := by decide +kernel
theorem dL_refuses_176 : decode cL_refuses 176 = .ok (.aload_n 0, 1) := by decide +kernel
theorem dL_refuses_177 : decode cL_refuses 177 = .ok (.iconst 4, 1) := by decide +kernel
theorem dL_refuses_178 : decode cL_refuses 178 = .ok (.iload_n 3, 1) := by decide +kernel
theorem dL_refuses_179 : decode cL_refuses 179 = .ok (.iconst 0, 1) := by decide +kernel
theorem dL_refuses_180 : decode cL_refuses 180 = .ok (.iconst 0, 1) := by decide +kernel
theorem dL_refuses_181 : decode cL_refuses 181 = .ok (.invokestatic 190, 3) := by decide +kernel
theorem dL_refuses_184 : decode cL_refuses 184 = .ok (.ldc 15, 2) := by decide +kernel
theorem dL_refuses_186 : decode cL_refuses 186 = .ok (.if_icmp .ne 895, 3) := by decide +kernel
theorem dL_refuses_189 : decode cL_refuses 189 = .ok (.aload_n 0, 1) := by decide +kernel
theorem dL_refuses_190 : decode cL_refuses 190 = .ok (.iconst 4, 1) := by decide +kernel
theorem dL_refuses_191 : decode cL_refuses 191 = .ok (.iconst 0, 1) := by decide +kernel
theorem dL_refuses_192 : decode cL_refuses 192 = .ok (.iload 5, 2) := by decide +kernel
theorem dL_refuses_194 : decode cL_refuses 194 = .ok (.iconst 0, 1) := by decide +kernel
theorem dL_refuses_195 : decode cL_refuses 195 = .ok (.invokestatic 190, 3) := by decide +kernel
theorem dL_refuses_198 : decode cL_refuses 198 = .ok (.ldc 15, 2) := by decide +kernel
theorem dL_refuses_200 : decode cL_refuses 200 = .ok (.if_icmp .ne 881, 3) := by decide +kernel
theorem dL_refuses_203 : decode cL_refuses 203 = .ok (.aload_n 0, 1) := by decide +kernel
theorem dL_refuses_204 : decode cL_refuses 204 = .ok (.iconst 5, 1) := by decide +kernel
theorem dL_refuses_205 : decode cL_refuses 205 = .ok (.iload_n 3, 1) := by decide +kernel
theorem dL_refuses_206 : decode cL_refuses 206 = .ok (.iconst 0, 1) := by decide +kernel
theorem dL_refuses_207 : decode cL_refuses 207 = .ok (.bipush 9, 2) := by decide +kernel
theorem dL_refuses_209 : decode cL_refuses 209 = .ok (.invokestatic 190, 3) := by decide +kernel
theorem dL_refuses_212 : decode cL_refuses 212 = .ok (.ldc 15, 2) := by decide +kernel
theorem dL_refuses_214 : decode cL_refuses 214 = .ok (.if_icmp .ne 867, 3) := by decide +kernel
theorem dL_refuses_217 : decode cL_refuses 217 = .ok (.aload_n 0, 1) := by decide +kernel
theorem dL_refuses_218 : decode cL_refuses 218 = .ok (.iconst 5, 1) := by decide +kernel
theorem dL_refuses_219 : decode cL_refuses 219 = .ok (.iconst 0, 1) := by decide +kernel
theorem dL_refuses_220 : decode cL_refuses 220 = .ok (.iload_n 1, 1) := by decide +kernel
theorem dL_refuses_221 : decode cL_refuses 221 = .ok (.iconst 2, 1) := by decide +kernel
theorem dL_refuses_222 : decode cL_refuses 222 = .ok (.irem, 1) := by decide +kernel
theorem dL_refuses_223 : decode cL_refuses 223 = .ok (.ifCond .ne 7, 3) := by decide +kernel
theorem dL_refuses_226 : decode cL_refuses 226 = .ok (.iconst (-1), 1) := by decide +kernel
theorem dL_refuses_227 : decode cL_refuses 227 = .ok (.goto 9, 3) := by decide +kernel
theorem dL_refuses_230 : decode cL_refuses 230 = .ok (.iconst 3, 1) := by decide +kernel
theorem dL_refuses_231 : decode cL_refuses 231 = .ok (.iload_n 1, 1) := by decide +kernel
theorem dL_refuses_232 : decode cL_refuses 232 = .ok (.bipush 9, 2) := by decide +kernel
theorem dL_refuses_234 : decode cL_refuses 234 = .ok (.irem, 1) := by decide +kernel
theorem dL_refuses_235 : decode cL_refuses 235 = .ok (.iadd, 1) := by decide +kernel
theorem dL_refuses_236 : decode cL_refuses 236 = .ok (.bipush 9, 2) := by decide +kernel
theorem dL_refuses_238 : decode cL_refuses 238 = .ok (.invokestatic 190, 3) := by decide +kernel
theorem dL_refuses_241 : decode cL_refuses 241 = .ok (.ldc 15, 2) := by decide +kernel
theorem dL_refuses_243 : decode cL_refuses 243 = .ok (.if_icmp .ne 838, 3) := by decide +kernel
theorem dL_refuses_246 : decode cL_refuses 246 = .ok (.aload_n 0, 1) := by decide +kernel
theorem dL_refuses_247 : decode cL_refuses 247 = .ok (.iconst 5, 1) := by decide +kernel
theorem dL_refuses_248 : decode cL_refuses 248 = .ok (.iconst 0, 1) := by decide +kernel
theorem dL_refuses_249 : decode cL_refuses 249 = .ok (.iconst 0, 1) := by decide +kernel
theorem dL_refuses_250 : decode cL_refuses 250 = .ok (.iconst 2, 1) := by decide +kernel
theorem dL_refuses_251 : decode cL_refuses 251 = .ok (.iload_n 1, 1) := by decide +kernel
theorem dL_refuses_252 : decode cL_refuses 252 = .ok (.bipush 9, 2) := by decide +kernel
theorem dL_refuses_254 : decode cL_refuses 254 = .ok (.irem, 1) := by decide +kernel
theorem dL_refuses_255 : decode cL_refuses 255 = .ok (.iadd, 1) := by decide +kernel
theorem dL_refuses_256 : decode cL_refuses 256 = .ok (.invokestatic 190, 3) := by decide +kernel
theorem dL_refuses_259 : decode cL_refuses 259 = .ok (.ldc 18, 2) := by decide +kernel
theorem dL_refuses_261 : decode cL_refuses 261 = .ok (.if_icmp .ne 820, 3) := by decide +kernel
theorem dL_refuses_264 : decode cL_refuses 264 = .ok (.aload_n 0, 1) := by decide +kernel
theorem dL_refuses_265 : decode cL_refuses 265 = .ok (.bipush 6, 2) := by decide +kernel
theorem dL_refuses_267 : decode cL_refuses 267 = .ok (.iload 4, 2) := by decide +kernel
theorem dL_refuses_269 : decode cL_refuses 269 = .ok (.iconst 0, 1) := by decide +kernel
theorem dL_refuses_270 : decode cL_refuses 270 = .ok (.iconst 0, 1) := by decide +kernel
theorem dL_refuses_271 : decode cL_refuses 271 = .ok (.invokestatic 190, 3) := by decide +kernel
theorem dL_refuses_274 : decode cL_refuses 274 = .ok (.ldc 15, 2) := by decide +kernel
theorem dL_refuses_276 : decode cL_refuses 276 = .ok (.if_icmp .ne 805, 3) := by decide +kernel
theorem dL_refuses_279 : decode cL_refuses 279 = .ok (.aload_n 0, 1) := by decide +kernel
theorem dL_refuses_280 : decode cL_refuses 280 = .ok (.bipush 6, 2) := by decide +kernel
theorem dL_refuses_282 : decode cL_refuses 282 = .ok (.iconst 0, 1) := by decide +kernel
theorem dL_refuses_283 : decode cL_refuses 283 = .ok (.iload 5, 2) := by decide +kernel
theorem dL_refuses_285 : decode cL_refuses 285 = .ok (.iconst 0, 1) := by decide +kernel
theorem dL_refuses_286 : decode cL_refuses 286 = .ok (.invokestatic 190, 3) := by decide +kernel
theorem dL_refuses_289 : decode cL_refuses 289 = .ok (.ldc 15, 2) := by decide +kernel
theorem dL_refuses_291 : decode cL_refuses 291 = .ok (.if_icmp .ne 790, 3) := by decide +kernel
theorem dL_refuses_294 : decode cL_refuses 294 = .ok (.aload_n 0, 1) := by decide +kernel
theorem dL_refuses_295 : decode cL_refuses 295 = .ok (.bipush 7, 2) := by decide +kernel
theorem dL_refuses_297 : decode cL_refuses 297 = .ok (.iload 4, 2) := by decide +kernel
theorem dL_refuses_299 : decode cL_refuses 299 = .ok (.iconst 0, 1) := by decide +kernel
theorem dL_refuses_300 : decode cL_refuses 300 = .ok (.iconst 0, 1) := by decide +kernel
theorem dL_refuses_301 : decode cL_refuses 301 = .ok (.invokestatic 190, 3) := by decide +kernel
theorem dL_refuses_304 : decode cL_refuses 304 = .ok (.ldc 15, 2) := by decide +kernel
theorem dL_refuses_306 : decode cL_refuses 306 = .ok (.if_icmp .ne 775, 3) := by decide +kernel
theorem dL_refuses_309 : decode cL_refuses 309 = .ok (.aload_n 0, 1) := by decide +kernel
theorem dL_refuses_310 : decode cL_refuses 310 = .ok (.bipush 8, 2) := by decide +kernel
theorem dL_refuses_312 : decode cL_refuses 312 = .ok (.iconst 5, 1) := by decide +kernel
theorem dL_refuses_313 : decode cL_refuses 313 = .ok (.iload_n 1, 1) := by decide +kernel
theorem dL_refuses_314 : decode cL_refuses 314 = .ok (.bipush 9, 2) := by decide +kernel
theorem dL_refuses_316 : decode cL_refuses 316 = .ok (.irem, 1) := by decide +kernel
theorem dL_refuses_317 : decode cL_refuses 317 = .ok (.iadd, 1) := by decide +kernel
theorem dL_refuses_318 : decode cL_refuses 318 = .ok (.iconst 0, 1) := by decide +kernel
theorem dL_refuses_319 : decode cL_refuses 319 = .ok (.iconst 0, 1) := by decide +kernel
theorem dL_refuses_320 : decode cL_refuses 320 = .ok (.invokestatic 190, 3) := by decide +kernel
theorem dL_refuses_323 : decode cL_refuses 323 = .ok (.ldc 18, 2) := by decide +kernel
theorem dL_refuses_325 : decode cL_refuses 325 = .ok (.if_icmp .ne 756, 3) := by decide +kernel
theorem dL_refuses_328 : decode cL_refuses 328 = .ok (.aload_n 0, 1) := by decide +kernel
theorem dL_refuses_329 : decode cL_refuses 329 = .ok (.iload_n 3, 1) := by decide +kernel
theorem dL_refuses_330 : decode cL_refuses 330 = .ok (.iconst 0, 1) := by decide +kernel
theorem dL_refuses_331 : decode cL_refuses 331 = .ok (.iconst 0, 1) := by decide +kernel
theorem dL_refuses_332 : decode cL_refuses 332 = .ok (.iconst 0, 1) := by decide +kernel
theorem dL_refuses_333 : decode cL_refuses 333 = .ok (.invokestatic 194, 3) := by decide +kernel
theorem dL_refuses_336 : decode cL_refuses 336 = .ok (.ldc 15, 2) := by decide +kernel
theorem dL_refuses_338 : decode cL_refuses 338 = .ok (.if_icmp .ne 743, 3) := by decide +kernel
theorem dL_refuses_341 : decode cL_refuses 341 = .ok (.aload_n 0, 1) := by decide +kernel
theorem dL_refuses_342 : decode cL_refuses 342 = .ok (.iconst 0, 1) := by decide +kernel
theorem dL_refuses_343 : decode cL_refuses 343 = .ok (.iload_n 1, 1) := by decide +kernel
theorem dL_refuses_344 : decode cL_refuses 344 = .ok (.iconst 2, 1) := by decide +kernel
theorem dL_refuses_345 : decode cL_refuses 345 = .ok (.irem, 1) := by decide +kernel
theorem dL_refuses_346 : decode cL_refuses 346 = .ok (.ifCond .ne 7, 3) := by decide +kernel
theorem dL_refuses_349 : decode cL_refuses 349 = .ok (.iconst (-1), 1) := by decide +kernel
theorem dL_refuses_350 : decode cL_refuses 350 = .ok (.goto 11, 3) := by decide +kernel
theorem dL_refuses_353 : decode cL_refuses 353 = .ok (.sipush 1000, 3) := by decide +kernel
theorem dL_refuses_356 : decode cL_refuses 356 = .ok (.iload_n 1, 1) := by decide +kernel
theorem dL_refuses_357 : decode cL_refuses 357 = .ok (.bipush 9, 2) := by decide +kernel
theorem dL_refuses_359 : decode cL_refuses 359 = .ok (.irem, 1) := by decide +kernel
theorem dL_refuses_360 : decode cL_refuses 360 = .ok (.iadd, 1) := by decide +kernel
theorem dL_refuses_361 : decode cL_refuses 361 = .ok (.iconst 0, 1) := by decide +kernel
theorem dL_refuses_362 : decode cL_refuses 362 = .ok (.iconst 0, 1) := by decide +kernel
theorem dL_refuses_363 : decode cL_refuses 363 = .ok (.invokestatic 194, 3) := by decide +kernel
theorem dL_refuses_366 : decode cL_refuses 366 = .ok (.ldc 18, 2) := by decide +kernel
theorem dL_refuses_368 : decode cL_refuses 368 = .ok (.if_icmp .ne 713, 3) := by decide +kernel
theorem dL_refuses_371 : decode cL_refuses 371 = .ok (.aload_n 0, 1) := by decide +kernel
theorem dL_refuses_372 : decode cL_refuses 372 = .ok (.iconst 0, 1) := by decide +kernel
theorem dL_refuses_373 : decode cL_refuses 373 = .ok (.iconst 0, 1) := by decide +kernel
theorem dL_refuses_374 : decode cL_refuses 374 = .ok (.iload_n 1, 1) := by decide +kernel
theorem dL_refuses_375 : decode cL_refuses 375 = .ok (.iconst 2, 1) := by decide +kernel
theorem dL_refuses_376 : decode cL_refuses 376 = .ok (.irem, 1) := by decide +kernel
theorem dL_refuses_377 : decode cL_refuses 377 = .ok (.ifCond .ne 7, 3) := by decide +kernel
theorem dL_refuses_380 : decode cL_refuses 380 = .ok (.iconst (-1), 1) := by decide +kernel
theorem dL_refuses_381 : decode cL_refuses 381 = .ok (.goto 11, 3) := by decide +kernel
theorem dL_refuses_384 : decode cL_refuses 384 = .ok (.sipush 501, 3) := by decide +kernel
theorem dL_refuses_387 : decode cL_refuses 387 = .ok (.iload_n 1, 1) := by decide +kernel
theorem dL_refuses_388 : decode cL_refuses 388 = .ok (.bipush 9, 2) := by decide +kernel
theorem dL_refuses_390 : decode cL_refuses 390 = .ok (.irem, 1) := by decide +kernel
theorem dL_refuses_391 : decode cL_refuses 391 = .ok (.iadd, 1) := by decide +kernel
theorem dL_refuses_392 : decode cL_refuses 392 = .ok (.iconst 0, 1) := by decide +kernel
theorem dL_refuses_393 : decode cL_refuses 393 = .ok (.invokestatic 194, 3) := by decide +kernel
theorem dL_refuses_396 : decode cL_refuses 396 = .ok (.ldc 18, 2) := by decide +kernel
theorem dL_refuses_398 : decode cL_refuses 398 = .ok (.if_icmp .ne 683, 3) := by decide +kernel
theorem dL_refuses_401 : decode cL_refuses 401 = .ok (.aload_n 0, 1) := by decide +kernel
theorem dL_refuses_402 : decode cL_refuses 402 = .ok (.iconst 0, 1) := by decide +kernel
theorem dL_refuses_403 : decode cL_refuses 403 = .ok (.iconst 0, 1) := by decide +kernel
theorem dL_refuses_404 : decode cL_refuses 404 = .ok (.iconst 0, 1) := by decide +kernel
theorem dL_refuses_405 : decode cL_refuses 405 = .ok (.iconst 2, 1) := by decide +kernel
theorem dL_refuses_406 : decode cL_refuses 406 = .ok (.iload_n 1, 1) := by decide +kernel
theorem dL_refuses_407 : decode cL_refuses 407 = .ok (.bipush 9, 2) := by decide +kernel
theorem dL_refuses_409 : decode cL_refuses 409 = .ok (.irem, 1) := by decide +kernel
theorem dL_refuses_410 : decode cL_refuses 410 = .ok (.iadd, 1) := by decide +kernel
theorem dL_refuses_411 : decode cL_refuses 411 = .ok (.invokestatic 194, 3) := by decide +kernel
theorem dL_refuses_414 : decode cL_refuses 414 = .ok (.ldc 18, 2) := by decide +kernel
theorem dL_refuses_416 : decode cL_refuses 416 = .ok (.if_icmp .ne 665, 3) := by decide +kernel
theorem dL_refuses_419 : decode cL_refuses 419 = .ok (.aload_n 0, 1) := by decide +kernel
theorem dL_refuses_420 : decode cL_refuses 420 = .ok (.bipush 9, 2) := by decide +kernel
theorem dL_refuses_422 : decode cL_refuses 422 = .ok (.iload 4, 2) := by decide +kernel
theorem dL_refuses_424 : decode cL_refuses 424 = .ok (.iconst 0, 1) := by decide +kernel
theorem dL_refuses_425 : decode cL_refuses 425 = .ok (.iconst 0, 1) := by decide +kernel
theorem dL_refuses_426 : decode cL_refuses 426 = .ok (.invokestatic 190, 3) := by decide +kernel
theorem dL_refuses_429 : decode cL_refuses 429 = .ok (.ldc 15, 2) := by decide +kernel
theorem dL_refuses_431 : decode cL_refuses 431 = .ok (.if_icmp .ne 650, 3) := by decide +kernel
theorem dL_refuses_434 : decode cL_refuses 434 = .ok (.aload_n 0, 1) := by decide +kernel
theorem dL_refuses_435 : decode cL_refuses 435 = .ok (.bipush 9, 2) := by decide +kernel
theorem dL_refuses_437 : decode cL_refuses 437 = .ok (.iconst 0, 1) := by decide +kernel
theorem dL_refuses_438 : decode cL_refuses 438 = .ok (.iload_n 1, 1) := by decide +kernel
theorem dL_refuses_439 : decode cL_refuses 439 = .ok (.iconst 2, 1) := by decide +kernel
theorem dL_refuses_440 : decode cL_refuses 440 = .ok (.irem, 1) := by decide +kernel
theorem dL_refuses_441 : decode cL_refuses 441 = .ok (.ifCond .ne 12, 3) := by decide +kernel
theorem dL_refuses_444 : decode cL_refuses 444 = .ok (.iconst (-1), 1) := by decide +kernel
theorem dL_refuses_445 : decode cL_refuses 445 = .ok (.iload_n 1, 1) := by decide +kernel
theorem dL_refuses_446 : decode cL_refuses 446 = .ok (.bipush 9, 2) := by decide +kernel
theorem dL_refuses_448 : decode cL_refuses 448 = .ok (.irem, 1) := by decide +kernel
theorem dL_refuses_449 : decode cL_refuses 449 = .ok (.isub, 1) := by decide +kernel
theorem dL_refuses_450 : decode cL_refuses 450 = .ok (.goto 10, 3) := by decide +kernel
theorem dL_refuses_453 : decode cL_refuses 453 = .ok (.ldc 197, 2) := by decide +kernel
theorem dL_refuses_455 : decode cL_refuses 455 = .ok (.iload_n 1, 1) := by decide +kernel
theorem dL_refuses_456 : decode cL_refuses 456 = .ok (.bipush 9, 2) := by decide +kernel
theorem dL_refuses_458 : decode cL_refuses 458 = .ok (.irem, 1) := by decide +kernel
theorem dL_refuses_459 : decode cL_refuses 459 = .ok (.iadd, 1) := by decide +kernel
theorem dL_refuses_460 : decode cL_refuses 460 = .ok (.iconst 0, 1) := by decide +kernel
theorem dL_refuses_461 : decode cL_refuses 461 = .ok (.invokestatic 190, 3) := by decide +kernel
theorem dL_refuses_464 : decode cL_refuses 464 = .ok (.ldc 18, 2) := by decide +kernel
theorem dL_refuses_466 : decode cL_refuses 466 = .ok (.if_icmp .ne 615, 3) := by decide +kernel
theorem dL_refuses_469 : decode cL_refuses 469 = .ok (.aload_n 0, 1) := by decide +kernel
theorem dL_refuses_470 : decode cL_refuses 470 = .ok (.bipush 10, 2) := by decide +kernel
theorem dL_refuses_472 : decode cL_refuses 472 = .ok (.iload_n 3, 1) := by decide +kernel
theorem dL_refuses_473 : decode cL_refuses 473 = .ok (.iconst 0, 1) := by decide +kernel
theorem dL_refuses_474 : decode cL_refuses 474 = .ok (.iconst 0, 1) := by decide +kernel
theorem dL_refuses_475 : decode cL_refuses 475 = .ok (.invokestatic 190, 3) := by decide +kernel
theorem dL_refuses_478 : decode cL_refuses 478 = .ok (.ldc 15, 2) := by decide +kernel
theorem dL_refuses_480 : decode cL_refuses 480 = .ok (.if_icmp .ne 601, 3) := by decide +kernel
theorem dL_refuses_483 : decode cL_refuses 483 = .ok (.aload_n 0, 1) := by decide +kernel
theorem dL_refuses_484 : decode cL_refuses 484 = .ok (.bipush 10, 2) := by decide +kernel
theorem dL_refuses_486 : decode cL_refuses 486 = .ok (.iconst 0, 1) := by decide +kernel
theorem dL_refuses_487 : decode cL_refuses 487 = .ok (.iload 5, 2) := by decide +kernel
theorem dL_refuses_489 : decode cL_refuses 489 = .ok (.iconst 0, 1) := by decide +kernel
theorem dL_refuses_490 : decode cL_refuses 490 = .ok (.invokestatic 190, 3) := by decide +kernel
theorem dL_refuses_493 : decode cL_refuses 493 = .ok (.ldc 15, 2) := by decide +kernel
theorem dL_refuses_495 : decode cL_refuses 495 = .ok (.if_icmp .ne 586, 3) := by decide +kernel
theorem dL_refuses_498 : decode cL_refuses 498 = .ok (.aload_n 0, 1) := by decide +kernel
theorem dL_refuses_499 : decode cL_refuses 499 = .ok (.bipush 10, 2) := by decide +kernel
theorem dL_refuses_501 : decode cL_refuses 501 = .ok (.iconst 0, 1) := by decide +kernel
theorem dL_refuses_502 : decode cL_refuses 502 = .ok (.iconst 0, 1) := by decide +kernel
theorem dL_refuses_503 : decode cL_refuses 503 = .ok (.iload_n 1, 1) := by decide +kernel
theorem dL_refuses_504 : decode cL_refuses 504 = .ok (.iconst 2, 1) := by decide +kernel
theorem dL_refuses_505 : decode cL_refuses 505 = .ok (.irem, 1) := by decide +kernel
theorem dL_refuses_506 : decode cL_refuses 506 = .ok (.ifCond .ne 7, 3) := by decide +kernel
theorem dL_refuses_509 : decode cL_refuses 509 = .ok (.iconst (-1), 1) := by decide +kernel
theorem dL_refuses_510 : decode cL_refuses 510 = .ok (.goto 10, 3) := by decide +kernel
theorem dL_refuses_513 : decode cL_refuses 513 = .ok (.bipush 10, 2) := by decide +kernel
theorem dL_refuses_515 : decode cL_refuses 515 = .ok (.iload_n 1, 1) := by decide +kernel
theorem dL_refuses_516 : decode cL_refuses 516 = .ok (.bipush 9, 2) := by decide +kernel
theorem dL_refuses_518 : decode cL_refuses 518 = .ok (.irem, 1) := by decide +kernel
theorem dL_refuses_519 : decode cL_refuses 519 = .ok (.iadd, 1) := by decide +kernel
theorem dL_refuses_520 : decode cL_refuses 520 = .ok (.invokestatic 190, 3) := by decide +kernel
theorem dL_refuses_523 : decode cL_refuses 523 = .ok (.ldc 18, 2) := by decide +kernel
theorem dL_refuses_525 : decode cL_refuses 525 = .ok (.if_icmp .ne 556, 3) := by decide +kernel
theorem dL_refuses_528 : decode cL_refuses 528 = .ok (.aload_n 0, 1) := by decide +kernel
theorem dL_refuses_529 : decode cL_refuses 529 = .ok (.bipush 11, 2) := by decide +kernel
theorem dL_refuses_531 : decode cL_refuses 531 = .ok (.iload_n 3, 1) := by decide +kernel
theorem dL_refuses_532 : decode cL_refuses 532 = .ok (.iconst 5, 1) := by decide +kernel
theorem dL_refuses_533 : decode cL_refuses 533 = .ok (.iconst 5, 1) := by decide +kernel
theorem dL_refuses_534 : decode cL_refuses 534 = .ok (.invokestatic 190, 3) := by decide +kernel
theorem dL_refuses_537 : decode cL_refuses 537 = .ok (.ldc 15, 2) := by decide +kernel
theorem dL_refuses_539 : decode cL_refuses 539 = .ok (.if_icmp .ne 542, 3) := by decide +kernel
theorem dL_refuses_542 : decode cL_refuses 542 = .ok (.aload_n 0, 1) := by decide +kernel
theorem dL_refuses_543 : decode cL_refuses 543 = .ok (.bipush 11, 2) := by decide +kernel
theorem dL_refuses_545 : decode cL_refuses 545 = .ok (.iconst 0, 1) := by decide +kernel
theorem dL_refuses_546 : decode cL_refuses 546 = .ok (.iload_n 1, 1) := by decide +kernel
theorem dL_refuses_547 : decode cL_refuses 547 = .ok (.iconst 2, 1) := by decide +kernel
theorem dL_refuses_548 : decode cL_refuses 548 = .ok (.irem, 1) := by decide +kernel
theorem dL_refuses_549 : decode cL_refuses 549 = .ok (.ifCond .ne 7, 3) := by decide +kernel
theorem dL_refuses_552 : decode cL_refuses 552 = .ok (.iconst (-1), 1) := by decide +kernel
theorem dL_refuses_553 : decode cL_refuses 553 = .ok (.goto 11, 3) := by decide +kernel
theorem dL_refuses_556 : decode cL_refuses 556 = .ok (.sipush 1000, 3) := by decide +kernel
theorem dL_refuses_559 : decode cL_refuses 559 = .ok (.iload_n 1, 1) := by decide +kernel
theorem dL_refuses_560 : decode cL_refuses 560 = .ok (.bipush 9, 2) := by decide +kernel
theorem dL_refuses_562 : decode cL_refuses 562 = .ok (.irem, 1) := by decide +kernel
theorem dL_refuses_563 : decode cL_refuses 563 = .ok (.iadd, 1) := by decide +kernel
theorem dL_refuses_564 : decode cL_refuses 564 = .ok (.sipush 1000, 3) := by decide +kernel
theorem dL_refuses_567 : decode cL_refuses 567 = .ok (.invokestatic 190, 3) := by decide +kernel
theorem dL_refuses_570 : decode cL_refuses 570 = .ok (.ldc 18, 2) := by decide +kernel
theorem dL_refuses_572 : decode cL_refuses 572 = .ok (.if_icmp .ne 509, 3) := by decide +kernel
theorem dL_refuses_575 : decode cL_refuses 575 = .ok (.aload_n 0, 1) := by decide +kernel
theorem dL_refuses_576 : decode cL_refuses 576 = .ok (.bipush 11, 2) := by decide +kernel
theorem dL_refuses_578 : decode cL_refuses 578 = .ok (.iconst 0, 1) := by decide +kernel
theorem dL_refuses_579 : decode cL_refuses 579 = .ok (.iconst 5, 1) := by decide +kernel
theorem dL_refuses_580 : decode cL_refuses 580 = .ok (.iload_n 1, 1) := by decide +kernel
theorem dL_refuses_581 : decode cL_refuses 581 = .ok (.iconst 2, 1) := by decide +kernel
theorem dL_refuses_582 : decode cL_refuses 582 = .ok (.irem, 1) := by decide +kernel
theorem dL_refuses_583 : decode cL_refuses 583 = .ok (.ifCond .ne 7, 3) := by decide +kernel
theorem dL_refuses_586 : decode cL_refuses 586 = .ok (.iconst 4, 1) := by decide +kernel
theorem dL_refuses_587 : decode cL_refuses 587 = .ok (.goto 11, 3) := by decide +kernel
theorem dL_refuses_590 : decode cL_refuses 590 = .ok (.sipush 1000, 3) := by decide +kernel
theorem dL_refuses_593 : decode cL_refuses 593 = .ok (.iload_n 1, 1) := by decide +kernel
theorem dL_refuses_594 : decode cL_refuses 594 = .ok (.bipush 9, 2) := by decide +kernel
theorem dL_refuses_596 : decode cL_refuses 596 = .ok (.irem, 1) := by decide +kernel
theorem dL_refuses_597 : decode cL_refuses 597 = .ok (.iadd, 1) := by decide +kernel
theorem dL_refuses_598 : decode cL_refuses 598 = .ok (.invokestatic 190, 3) := by decide +kernel
theorem dL_refuses_601 : decode cL_refuses 601 = .ok (.ldc 18, 2) := by decide +kernel
theorem dL_refuses_603 : decode cL_refuses 603 = .ok (.if_icmp .ne 478, 3) := by decide +kernel
theorem dL_refuses_606 : decode cL_refuses 606 = .ok (.aload_n 0, 1) := by decide +kernel
theorem dL_refuses_607 : decode cL_refuses 607 = .ok (.bipush 12, 2) := by decide +kernel
theorem dL_refuses_609 : decode cL_refuses 609 = .ok (.iload_n 3, 1) := by decide +kernel
theorem dL_refuses_610 : decode cL_refuses 610 = .ok (.iconst 0, 1) := by decide +kernel
theorem dL_refuses_611 : decode cL_refuses 611 = .ok (.iconst 0, 1) := by decide +kernel
theorem dL_refuses_612 : decode cL_refuses 612 = .ok (.invokestatic 190, 3) := by decide +kernel
theorem dL_refuses_615 : decode cL_refuses 615 = .ok (.ldc 15, 2) := by decide +kernel
theorem dL_refuses_617 : decode cL_refuses 617 = .ok (.if_icmp .ne 464, 3) := by decide +kernel
theorem dL_refuses_620 : decode cL_refuses 620 = .ok (.aload_n 0, 1) := by decide +kernel
theorem dL_refuses_621 : decode cL_refuses 621 = .ok (.bipush 12, 2) := by decide +kernel
theorem dL_refuses_623 : decode cL_refuses 623 = .ok (.iconst 0, 1) := by decide +kernel
theorem dL_refuses_624 : decode cL_refuses 624 = .ok (.iload_n 1, 1) := by decide +kernel
theorem dL_refuses_625 : decode cL_refuses 625 = .ok (.iconst 2, 1) := by decide +kernel
theorem dL_refuses_626 : decode cL_refuses 626 = .ok (.irem, 1) := by decide +kernel
theorem dL_refuses_627 : decode cL_refuses 627 = .ok (.ifCond .ne 7, 3) := by decide +kernel
theorem dL_refuses_630 : decode cL_refuses 630 = .ok (.iconst (-1), 1) := by decide +kernel
theorem dL_refuses_631 : decode cL_refuses 631 = .ok (.goto 10, 3) := by decide +kernel
theorem dL_refuses_634 : decode cL_refuses 634 = .ok (.iload 6, 2) := by decide +kernel
theorem dL_refuses_636 : decode cL_refuses 636 = .ok (.iload_n 1, 1) := by decide +kernel
theorem dL_refuses_637 : decode cL_refuses 637 = .ok (.bipush 9, 2) := by decide +kernel
theorem dL_refuses_639 : decode cL_refuses 639 = .ok (.irem, 1) := by decide +kernel
theorem dL_refuses_640 : decode cL_refuses 640 = .ok (.iadd, 1) := by decide +kernel
theorem dL_refuses_641 : decode cL_refuses 641 = .ok (.iconst 0, 1) := by decide +kernel
theorem dL_refuses_642 : decode cL_refuses 642 = .ok (.invokestatic 190, 3) := by decide +kernel
theorem dL_refuses_645 : decode cL_refuses 645 = .ok (.ldc 15, 2) := by decide +kernel
theorem dL_refuses_647 : decode cL_refuses 647 = .ok (.if_icmp .ne 434, 3) := by decide +kernel
theorem dL_refuses_650 : decode cL_refuses 650 = .ok (.aload_n 0, 1) := by decide +kernel
theorem dL_refuses_651 : decode cL_refuses 651 = .ok (.iload 4, 2) := by decide +kernel
theorem dL_refuses_653 : decode cL_refuses 653 = .ok (.iconst 0, 1) := by decide +kernel
theorem dL_refuses_654 : decode cL_refuses 654 = .ok (.iconst 1, 1) := by decide +kernel
theorem dL_refuses_655 : decode cL_refuses 655 = .ok (.invokestatic 198, 3) := by decide +kernel
theorem dL_refuses_658 : decode cL_refuses 658 = .ok (.ldc 15, 2) := by decide +kernel
theorem dL_refuses_660 : decode cL_refuses 660 = .ok (.if_icmp .ne 421, 3) := by decide +kernel
theorem dL_refuses_663 : decode cL_refuses 663 = .ok (.aload_n 0, 1) := by decide +kernel
theorem dL_refuses_664 : decode cL_refuses 664 = .ok (.iconst 0, 1) := by decide +kernel
theorem dL_refuses_665 : decode cL_refuses 665 = .ok (.iload 5, 2) := by decide +kernel
theorem dL_refuses_667 : decode cL_refuses 667 = .ok (.iconst 0, 1) := by decide +kernel
theorem dL_refuses_668 : decode cL_refuses 668 = .ok (.invokestatic 198, 3) := by decide +kernel
theorem dL_refuses_671 : decode cL_refuses 671 = .ok (.ldc 15, 2) := by decide +kernel
theorem dL_refuses_673 : decode cL_refuses 673 = .ok (.if_icmp .ne 408, 3) := by decide +kernel
theorem dL_refuses_676 : decode cL_refuses 676 = .ok (.aload_n 0, 1) := by decide +kernel
theorem dL_refuses_677 : decode cL_refuses 677 = .ok (.bipush 13, 2) := by decide +kernel
theorem dL_refuses_679 : decode cL_refuses 679 = .ok (.iload 4, 2) := by decide +kernel
theorem dL_refuses_681 : decode cL_refuses 681 = .ok (.iconst 0, 1) := by decide +kernel
theorem dL_refuses_682 : decode cL_refuses 682 = .ok (.iconst 0, 1) := by decide +kernel
theorem dL_refuses_683 : decode cL_refuses 683 = .ok (.invokestatic 190, 3) := by decide +kernel
theorem dL_refuses_686 : decode cL_refuses 686 = .ok (.ldc 15, 2) := by decide +kernel
theorem dL_refuses_688 : decode cL_refuses 688 = .ok (.if_icmp .ne 393, 3) := by decide +kernel
theorem dL_refuses_691 : decode cL_refuses 691 = .ok (.aload_n 0, 1) := by decide +kernel
theorem dL_refuses_692 : decode cL_refuses 692 = .ok (.bipush 13, 2) := by decide +kernel
theorem dL_refuses_694 : decode cL_refuses 694 = .ok (.iconst 0, 1) := by decide +kernel
theorem dL_refuses_695 : decode cL_refuses 695 = .ok (.iload 4, 2) := by decide +kernel
theorem dL_refuses_697 : decode cL_refuses 697 = .ok (.iconst 0, 1) := by decide +kernel
theorem dL_refuses_698 : decode cL_refuses 698 = .ok (.invokestatic 190, 3) := by decide +kernel
theorem dL_refuses_701 : decode cL_refuses 701 = .ok (.ldc 15, 2) := by decide +kernel
theorem dL_refuses_703 : decode cL_refuses 703 = .ok (.if_icmp .ne 378, 3) := by decide +kernel
theorem dL_refuses_706 : decode cL_refuses 706 = .ok (.aload_n 0, 1) := by decide +kernel
theorem dL_refuses_707 : decode cL_refuses 707 = .ok (.bipush 14, 2) := by decide +kernel
theorem dL_refuses_709 : decode cL_refuses 709 = .ok (.iconst 0, 1) := by decide +kernel
theorem dL_refuses_710 : decode cL_refuses 710 = .ok (.iload_n 1, 1) := by decide +kernel
theorem dL_refuses_711 : decode cL_refuses 711 = .ok (.iconst 2, 1) := by decide +kernel
theorem dL_refuses_712 : decode cL_refuses 712 = .ok (.irem, 1) := by decide +kernel
theorem dL_refuses_713 : decode cL_refuses 713 = .ok (.ifCond .ne 7, 3) := by decide +kernel
theorem dL_refuses_716 : decode cL_refuses 716 = .ok (.iconst (-1), 1) := by decide +kernel
theorem dL_refuses_717 : decode cL_refuses 717 = .ok (.goto 10, 3) := by decide +kernel
theorem dL_refuses_720 : decode cL_refuses 720 = .ok (.bipush 100, 2) := by decide +kernel
theorem dL_refuses_722 : decode cL_refuses 722 = .ok (.iload_n 1, 1) := by decide +kernel
theorem dL_refuses_723 : decode cL_refuses 723 = .ok (.bipush 9, 2) := by decide +kernel
theorem dL_refuses_725 : decode cL_refuses 725 = .ok (.irem, 1) := by decide +kernel
theorem dL_refuses_726 : decode cL_refuses 726 = .ok (.iadd, 1) := by decide +kernel
theorem dL_refuses_727 : decode cL_refuses 727 = .ok (.iconst 0, 1) := by decide +kernel
theorem dL_refuses_728 : decode cL_refuses 728 = .ok (.invokestatic 190, 3) := by decide +kernel
theorem dL_refuses_731 : decode cL_refuses 731 = .ok (.ldc 18, 2) := by decide +kernel
theorem dL_refuses_733 : decode cL_refuses 733 = .ok (.if_icmp .ne 348, 3) := by decide +kernel
theorem dL_refuses_736 : decode cL_refuses 736 = .ok (.aload_n 0, 1) := by decide +kernel
theorem dL_refuses_737 : decode cL_refuses 737 = .ok (.bipush 14, 2) := by decide +kernel
theorem dL_refuses_739 : decode cL_refuses 739 = .ok (.iconst 1, 1) := by decide +kernel
theorem dL_refuses_740 : decode cL_refuses 740 = .ok (.iload_n 1, 1) := by decide +kernel
theorem dL_refuses_741 : decode cL_refuses 741 = .ok (.iconst 2, 1) := by decide +kernel
theorem dL_refuses_742 : decode cL_refuses 742 = .ok (.irem, 1) := by decide +kernel
theorem dL_refuses_743 : decode cL_refuses 743 = .ok (.iadd, 1) := by decide +kernel
theorem dL_refuses_744 : decode cL_refuses 744 = .ok (.bipush 10, 2) := by decide +kernel
theorem dL_refuses_746 : decode cL_refuses 746 = .ok (.iload_n 1, 1) := by decide +kernel
theorem dL_refuses_747 : decode cL_refuses 747 = .ok (.bipush 9, 2) := by decide +kernel
theorem dL_refuses_749 : decode cL_refuses 749 = .ok (.irem, 1) := by decide +kernel
theorem dL_refuses_750 : decode cL_refuses 750 = .ok (.iadd, 1) := by decide +kernel
theorem dL_refuses_751 : decode cL_refuses 751 = .ok (.iconst 0, 1) := by decide +kernel
theorem dL_refuses_752 : decode cL_refuses 752 = .ok (.invokestatic 190, 3) := by decide +kernel
theorem dL_refuses_755 : decode cL_refuses 755 = .ok (.ldc 18, 2) := by decide +kernel
theorem dL_refuses_757 : decode cL_refuses 757 = .ok (.if_icmp .ne 324, 3) := by decide +kernel
theorem dL_refuses_760 : decode cL_refuses 760 = .ok (.aload_n 0, 1) := by decide +kernel
theorem dL_refuses_761 : decode cL_refuses 761 = .ok (.bipush 14, 2) := by decide +kernel
theorem dL_refuses_763 : decode cL_refuses 763 = .ok (.iconst 3, 1) := by decide +kernel
theorem dL_refuses_764 : decode cL_refuses 764 = .ok (.bipush 31, 2) := by decide +kernel
theorem dL_refuses_766 : decode cL_refuses 766 = .ok (.iload_n 1, 1) := by decide +kernel
theorem dL_refuses_767 : decode cL_refuses 767 = .ok (.bipush 9, 2) := by decide +kernel
theorem dL_refuses_769 : decode cL_refuses 769 = .ok (.irem, 1) := by decide +kernel
theorem dL_refuses_770 : decode cL_refuses 770 = .ok (.iadd, 1) := by decide +kernel
theorem dL_refuses_771 : decode cL_refuses 771 = .ok (.iconst 0, 1) := by decide +kernel
theorem dL_refuses_772 : decode cL_refuses 772 = .ok (.invokestatic 190, 3) := by decide +kernel
theorem dL_refuses_775 : decode cL_refuses 775 = .ok (.ldc 18, 2) := by decide +kernel
theorem dL_refuses_777 : decode cL_refuses 777 = .ok (.if_icmp .ne 304, 3) := by decide +kernel
theorem dL_refuses_780 : decode cL_refuses 780 = .ok (.aload_n 0, 1) := by decide +kernel
theorem dL_refuses_781 : decode cL_refuses 781 = .ok (.bipush 14, 2) := by decide +kernel
theorem dL_refuses_783 : decode cL_refuses 783 = .ok (.iconst 4, 1) := by decide +kernel
theorem dL_refuses_784 : decode cL_refuses 784 = .ok (.iload_n 1, 1) := by decide +kernel
theorem dL_refuses_785 : decode cL_refuses 785 = .ok (.iconst 2, 1) := by decide +kernel
theorem dL_refuses_786 : decode cL_refuses 786 = .ok (.irem, 1) := by decide +kernel
theorem dL_refuses_787 : decode cL_refuses 787 = .ok (.ifCond .ne 7, 3) := by decide +kernel
theorem dL_refuses_790 : decode cL_refuses 790 = .ok (.iconst 0, 1) := by decide +kernel
theorem dL_refuses_791 : decode cL_refuses 791 = .ok (.goto 10, 3) := by decide +kernel
theorem dL_refuses_794 : decode cL_refuses 794 = .ok (.bipush 21, 2) := by decide +kernel
theorem dL_refuses_796 : decode cL_refuses 796 = .ok (.iload_n 1, 1) := by decide +kernel
theorem dL_refuses_797 : decode cL_refuses 797 = .ok (.bipush 9, 2) := by decide +kernel
theorem dL_refuses_799 : decode cL_refuses 799 = .ok (.irem, 1) := by decide +kernel
theorem dL_refuses_800 : decode cL_refuses 800 = .ok (.iadd, 1) := by decide +kernel
theorem dL_refuses_801 : decode cL_refuses 801 = .ok (.iconst 0, 1) := by decide +kernel
theorem dL_refuses_802 : decode cL_refuses 802 = .ok (.invokestatic 190, 3) := by decide +kernel
theorem dL_refuses_805 : decode cL_refuses 805 = .ok (.ldc 18, 2) := by decide +kernel
theorem dL_refuses_807 : decode cL_refuses 807 = .ok (.if_icmp .ne 274, 3) := by decide +kernel
theorem dL_refuses_810 : decode cL_refuses 810 = .ok (.aload_n 0, 1) := by decide +kernel
theorem dL_refuses_811 : decode cL_refuses 811 = .ok (.bipush 14, 2) := by decide +kernel
theorem dL_refuses_813 : decode cL_refuses 813 = .ok (.iconst 5, 1) := by decide +kernel
theorem dL_refuses_814 : decode cL_refuses 814 = .ok (.iload_n 1, 1) := by decide +kernel
theorem dL_refuses_815 : decode cL_refuses 815 = .ok (.bipush 9, 2) := by decide +kernel
theorem dL_refuses_817 : decode cL_refuses 817 = .ok (.irem, 1) := by decide +kernel
theorem dL_refuses_818 : decode cL_refuses 818 = .ok (.iadd, 1) := by decide +kernel
theorem dL_refuses_819 : decode cL_refuses 819 = .ok (.iconst 5, 1) := by decide +kernel
theorem dL_refuses_820 : decode cL_refuses 820 = .ok (.iconst 0, 1) := by decide +kernel
theorem dL_refuses_821 : decode cL_refuses 821 = .ok (.invokestatic 190, 3) := by decide +kernel
theorem dL_refuses_824 : decode cL_refuses 824 = .ok (.ldc 18, 2) := by decide +kernel
theorem dL_refuses_826 : decode cL_refuses 826 = .ok (.if_icmp .ne 255, 3) := by decide +kernel
theorem dL_refuses_829 : decode cL_refuses 829 = .ok (.aload_n 0, 1) := by decide +kernel
theorem dL_refuses_830 : decode cL_refuses 830 = .ok (.bipush 15, 2) := by decide +kernel
theorem dL_refuses_832 : decode cL_refuses 832 = .ok (.iload_n 1, 1) := by decide +kernel
theorem dL_refuses_833 : decode cL_refuses 833 = .ok (.iconst 2, 1) := by decide +kernel
theorem dL_refuses_834 : decode cL_refuses 834 = .ok (.irem, 1) := by decide +kernel
theorem dL_refuses_835 : decode cL_refuses 835 = .ok (.ifCond .ne 7, 3) := by decide +kernel
theorem dL_refuses_838 : decode cL_refuses 838 = .ok (.iconst 0, 1) := by decide +kernel
theorem dL_refuses_839 : decode cL_refuses 839 = .ok (.goto 10, 3) := by decide +kernel
theorem dL_refuses_842 : decode cL_refuses 842 = .ok (.bipush 61, 2) := by decide +kernel
theorem dL_refuses_844 : decode cL_refuses 844 = .ok (.iload_n 1, 1) := by decide +kernel
theorem dL_refuses_845 : decode cL_refuses 845 = .ok (.bipush 9, 2) := by decide +kernel
theorem dL_refuses_847 : decode cL_refuses 847 = .ok (.irem, 1) := by decide +kernel
theorem dL_refuses_848 : decode cL_refuses 848 = .ok (.iadd, 1) := by decide +kernel
theorem dL_refuses_849 : decode cL_refuses 849 = .ok (.iconst 0, 1) := by decide +kernel
theorem dL_refuses_850 : decode cL_refuses 850 = .ok (.iconst 0, 1) := by decide +kernel
theorem dL_refuses_851 : decode cL_refuses 851 = .ok (.invokestatic 190, 3) := by decide +kernel
theorem dL_refuses_854 : decode cL_refuses 854 = .ok (.ldc 18, 2) := by decide +kernel
theorem dL_refuses_856 : decode cL_refuses 856 = .ok (.if_icmp .ne 225, 3) := by decide +kernel
theorem dL_refuses_859 : decode cL_refuses 859 = .ok (.aload_n 0, 1) := by decide +kernel
theorem dL_refuses_860 : decode cL_refuses 860 = .ok (.bipush 17, 2) := by decide +kernel
theorem dL_refuses_862 : decode cL_refuses 862 = .ok (.iload_n 3, 1) := by decide +kernel
theorem dL_refuses_863 : decode cL_refuses 863 = .ok (.iconst 0, 1) := by decide +kernel
theorem dL_refuses_864 : decode cL_refuses 864 = .ok (.iconst 0, 1) := by decide +kernel
theorem dL_refuses_865 : decode cL_refuses 865 = .ok (.invokestatic 190, 3) := by decide +kernel
theorem dL_refuses_868 : decode cL_refuses 868 = .ok (.ldc 15, 2) := by decide +kernel
theorem dL_refuses_870 : decode cL_refuses 870 = .ok (.if_icmp .ne 211, 3) := by decide +kernel
theorem dL_refuses_873 : decode cL_refuses 873 = .ok (.aload_n 0, 1) := by decide +kernel
theorem dL_refuses_874 : decode cL_refuses 874 = .ok (.bipush 18, 2) := by decide +kernel
theorem dL_refuses_876 : decode cL_refuses 876 = .ok (.iload_n 3, 1) := by decide +kernel
theorem dL_refuses_877 : decode cL_refuses 877 = .ok (.sipush 999, 3) := by decide +kernel
theorem dL_refuses_880 : decode cL_refuses 880 = .ok (.iconst 0, 1) := by decide +kernel
theorem dL_refuses_881 : decode cL_refuses 881 = .ok (.invokestatic 190, 3) := by decide +kernel
theorem dL_refuses_884 : decode cL_refuses 884 = .ok (.ldc 15, 2) := by decide +kernel
theorem dL_refuses_886 : decode cL_refuses 886 = .ok (.if_icmp .ne 195, 3) := by decide +kernel
theorem dL_refuses_889 : decode cL_refuses 889 = .ok (.aload_n 0, 1) := by decide +kernel
theorem dL_refuses_890 : decode cL_refuses 890 = .ok (.bipush 18, 2) := by decide +kernel
theorem dL_refuses_892 : decode cL_refuses 892 = .ok (.iconst 0, 1) := by decide +kernel
theorem dL_refuses_893 : decode cL_refuses 893 = .ok (.iload_n 1, 1) := by decide +kernel
theorem dL_refuses_894 : decode cL_refuses 894 = .ok (.iconst 2, 1) := by decide +kernel
theorem dL_refuses_895 : decode cL_refuses 895 = .ok (.irem, 1) := by decide +kernel
theorem dL_refuses_896 : decode cL_refuses 896 = .ok (.ifCond .ne 7, 3) := by decide +kernel
theorem dL_refuses_899 : decode cL_refuses 899 = .ok (.iconst (-1), 1) := by decide +kernel
theorem dL_refuses_900 : decode cL_refuses 900 = .ok (.goto 11, 3) := by decide +kernel
theorem dL_refuses_903 : decode cL_refuses 903 = .ok (.sipush 201, 3) := by decide +kernel
theorem dL_refuses_906 : decode cL_refuses 906 = .ok (.iload_n 1, 1) := by decide +kernel
theorem dL_refuses_907 : decode cL_refuses 907 = .ok (.bipush 9, 2) := by decide +kernel
theorem dL_refuses_909 : decode cL_refuses 909 = .ok (.irem, 1) := by decide +kernel
theorem dL_refuses_910 : decode cL_refuses 910 = .ok (.iadd, 1) := by decide +kernel
theorem dL_refuses_911 : decode cL_refuses 911 = .ok (.iconst 0, 1) := by decide +kernel
theorem dL_refuses_912 : decode cL_refuses 912 = .ok (.invokestatic 190, 3) := by decide +kernel
theorem dL_refuses_915 : decode cL_refuses 915 = .ok (.ldc 18, 2) := by decide +kernel
theorem dL_refuses_917 : decode cL_refuses 917 = .ok (.if_icmp .ne 164, 3) := by decide +kernel
theorem dL_refuses_920 : decode cL_refuses 920 = .ok (.aload_n 0, 1) := by decide +kernel
theorem dL_refuses_921 : decode cL_refuses 921 = .ok (.bipush 19, 2) := by decide +kernel
theorem dL_refuses_923 : decode cL_refuses 923 = .ok (.iload_n 3, 1) := by decide +kernel
theorem dL_refuses_924 : decode cL_refuses 924 = .ok (.iconst 0, 1) := by decide +kernel
theorem dL_refuses_925 : decode cL_refuses 925 = .ok (.iconst 0, 1) := by decide +kernel
theorem dL_refuses_926 : decode cL_refuses 926 = .ok (.invokestatic 190, 3) := by decide +kernel
theorem dL_refuses_929 : decode cL_refuses 929 = .ok (.ldc 15, 2) := by decide +kernel
theorem dL_refuses_931 : decode cL_refuses 931 = .ok (.if_icmp .ne 150, 3) := by decide +kernel
theorem dL_refuses_934 : decode cL_refuses 934 = .ok (.aload_n 0, 1) := by decide +kernel
theorem dL_refuses_935 : decode cL_refuses 935 = .ok (.bipush 20, 2) := by decide +kernel
theorem dL_refuses_937 : decode cL_refuses 937 = .ok (.iload_n 1, 1) := by decide +kernel
theorem dL_refuses_938 : decode cL_refuses 938 = .ok (.iconst 2, 1) := by decide +kernel
theorem dL_refuses_939 : decode cL_refuses 939 = .ok (.irem, 1) := by decide +kernel
theorem dL_refuses_940 : decode cL_refuses 940 = .ok (.ifCond .ne 7, 3) := by decide +kernel
theorem dL_refuses_943 : decode cL_refuses 943 = .ok (.iconst 0, 1) := by decide +kernel
theorem dL_refuses_944 : decode cL_refuses 944 = .ok (.goto 10, 3) := by decide +kernel
theorem dL_refuses_947 : decode cL_refuses 947 = .ok (.bipush 61, 2) := by decide +kernel
theorem dL_refuses_949 : decode cL_refuses 949 = .ok (.iload_n 1, 1) := by decide +kernel
theorem dL_refuses_950 : decode cL_refuses 950 = .ok (.bipush 9, 2) := by decide +kernel
theorem dL_refuses_952 : decode cL_refuses 952 = .ok (.irem, 1) := by decide +kernel
theorem dL_refuses_953 : decode cL_refuses 953 = .ok (.iadd, 1) := by decide +kernel
theorem dL_refuses_954 : decode cL_refuses 954 = .ok (.iconst 0, 1) := by decide +kernel
theorem dL_refuses_955 : decode cL_refuses 955 = .ok (.iconst 0, 1) := by decide +kernel
theorem dL_refuses_956 : decode cL_refuses 956 = .ok (.invokestatic 190, 3) := by decide +kernel
theorem dL_refuses_959 : decode cL_refuses 959 = .ok (.ldc 18, 2) := by decide +kernel
theorem dL_refuses_961 : decode cL_refuses 961 = .ok (.if_icmp .ne 120, 3) := by decide +kernel
theorem dL_refuses_964 : decode cL_refuses 964 = .ok (.aload_n 0, 1) := by decide +kernel
theorem dL_refuses_965 : decode cL_refuses 965 = .ok (.bipush 21, 2) := by decide +kernel
theorem dL_refuses_967 : decode cL_refuses 967 = .ok (.iload_n 1, 1) := by decide +kernel
theorem dL_refuses_968 : decode cL_refuses 968 = .ok (.iconst 2, 1) := by decide +kernel
theorem dL_refuses_969 : decode cL_refuses 969 = .ok (.irem, 1) := by decide +kernel
theorem dL_refuses_970 : decode cL_refuses 970 = .ok (.ifCond .ne 7, 3) := by decide +kernel
theorem dL_refuses_973 : decode cL_refuses 973 = .ok (.iconst 0, 1) := by decide +kernel
theorem dL_refuses_974 : decode cL_refuses 974 = .ok (.goto 10, 3) := by decide +kernel
theorem dL_refuses_977 : decode cL_refuses 977 = .ok (.bipush 31, 2) := by decide +kernel
theorem dL_refuses_979 : decode cL_refuses 979 = .ok (.iload_n 1, 1) := by decide +kernel
theorem dL_refuses_980 : decode cL_refuses 980 = .ok (.bipush 9, 2) := by decide +kernel
theorem dL_refuses_982 : decode cL_refuses 982 = .ok (.irem, 1) := by decide +kernel
theorem dL_refuses_983 : decode cL_refuses 983 = .ok (.iadd, 1) := by decide +kernel
theorem dL_refuses_984 : decode cL_refuses 984 = .ok (.iconst 0, 1) := by decide +kernel
theorem dL_refuses_985 : decode cL_refuses 985 = .ok (.iconst 0, 1) := by decide +kernel
theorem dL_refuses_986 : decode cL_refuses 986 = .ok (.invokestatic 190, 3) := by decide +kernel
theorem dL_refuses_989 : decode cL_refuses 989 = .ok (.ldc 18, 2) := by decide +kernel
theorem dL_refuses_991 : decode cL_refuses 991 = .ok (.if_icmp .ne 90, 3) := by decide +kernel
theorem dL_refuses_994 : decode cL_refuses 994 = .ok (.aload_n 0, 1) := by decide +kernel
theorem dL_refuses_995 : decode cL_refuses 995 = .ok (.bipush 22, 2) := by decide +kernel
theorem dL_refuses_997 : decode cL_refuses 997 = .ok (.iconst 2, 1) := by decide +kernel
theorem dL_refuses_998 : decode cL_refuses 998 = .ok (.iload_n 1, 1) := by decide +kernel
theorem dL_refuses_999 : decode cL_refuses 999 = .ok (.bipush 50, 2) := by decide +kernel
theorem dL_refuses_1001 : decode cL_refuses 1001 = .ok (.irem, 1) := by decide +kernel
theorem dL_refuses_1002 : decode cL_refuses 1002 = .ok (.iadd, 1) := by decide +kernel
theorem dL_refuses_1003 : decode cL_refuses 1003 = .ok (.iconst 0, 1) := by decide +kernel
theorem dL_refuses_1004 : decode cL_refuses 1004 = .ok (.iconst 0, 1) := by decide +kernel
theorem dL_refuses_1005 : decode cL_refuses 1005 = .ok (.invokestatic 190, 3) := by decide +kernel
theorem dL_refuses_1008 : decode cL_refuses 1008 = .ok (.ldc 15, 2) := by decide +kernel
theorem dL_refuses_1010 : decode cL_refuses 1010 = .ok (.if_icmp .ne 71, 3) := by decide +kernel
theorem dL_refuses_1013 : decode cL_refuses 1013 = .ok (.aload_n 0, 1) := by decide +kernel
theorem dL_refuses_1014 : decode cL_refuses 1014 = .ok (.bipush 23, 2) := by decide +kernel
theorem dL_refuses_1016 : decode cL_refuses 1016 = .ok (.iconst (-1), 1) := by decide +kernel
theorem dL_refuses_1017 : decode cL_refuses 1017 = .ok (.iload_n 1, 1) := by decide +kernel
theorem dL_refuses_1018 : decode cL_refuses 1018 = .ok (.bipush 9, 2) := by decide +kernel
theorem dL_refuses_1020 : decode cL_refuses 1020 = .ok (.irem, 1) := by decide +kernel
theorem dL_refuses_1021 : decode cL_refuses 1021 = .ok (.isub, 1) := by decide +kernel
theorem dL_refuses_1022 : decode cL_refuses 1022 = .ok (.iconst 0, 1) := by decide +kernel
theorem dL_refuses_1023 : decode cL_refuses 1023 = .ok (.iconst 0, 1) := by decide +kernel
theorem dL_refuses_1024 : decode cL_refuses 1024 = .ok (.invokestatic 190, 3) := by decide +kernel
theorem dL_refuses_1027 : decode cL_refuses 1027 = .ok (.ldc 15, 2) := by decide +kernel
theorem dL_refuses_1029 : decode cL_refuses 1029 = .ok (.if_icmp .ne 52, 3) := by decide +kernel
theorem dL_refuses_1032 : decode cL_refuses 1032 = .ok (.aload_n 0, 1) := by decide +kernel
theorem dL_refuses_1033 : decode cL_refuses 1033 = .ok (.iconst 0, 1) := by decide +kernel
theorem dL_refuses_1034 : decode cL_refuses 1034 = .ok (.lconst 0, 1) := by decide +kernel
theorem dL_refuses_1035 : decode cL_refuses 1035 = .ok (.invokestatic 202, 3) := by decide +kernel
theorem dL_refuses_1038 : decode cL_refuses 1038 = .ok (.ldc 18, 2) := by decide +kernel
theorem dL_refuses_1040 : decode cL_refuses 1040 = .ok (.if_icmp .ne 41, 3) := by decide +kernel
theorem dL_refuses_1043 : decode cL_refuses 1043 = .ok (.aload_n 0, 1) := by decide +kernel
theorem dL_refuses_1044 : decode cL_refuses 1044 = .ok (.iconst 1, 1) := by decide +kernel
theorem dL_refuses_1045 : decode cL_refuses 1045 = .ok (.ldc2_w 206, 3) := by decide +kernel
theorem dL_refuses_1048 : decode cL_refuses 1048 = .ok (.iload_n 1, 1) := by decide +kernel
theorem dL_refuses_1049 : decode cL_refuses 1049 = .ok (.i2l, 1) := by decide +kernel
theorem dL_refuses_1050 : decode cL_refuses 1050 = .ok (.ladd, 1) := by decide +kernel
theorem dL_refuses_1051 : decode cL_refuses 1051 = .ok (.invokestatic 202, 3) := by decide +kernel
theorem dL_refuses_1054 : decode cL_refuses 1054 = .ok (.ldc 18, 2) := by decide +kernel
theorem dL_refuses_1056 : decode cL_refuses 1056 = .ok (.if_icmp .ne 25, 3) := by decide +kernel
theorem dL_refuses_1059 : decode cL_refuses 1059 = .ok (.aload_n 0, 1) := by decide +kernel
theorem dL_refuses_1060 : decode cL_refuses 1060 = .ok (.iload_n 1, 1) := by decide +kernel
theorem dL_refuses_1061 : decode cL_refuses 1061 = .ok (.i2l, 1) := by decide +kernel
theorem dL_refuses_1062 : decode cL_refuses 1062 = .ok (.bipush 61, 2) := by decide +kernel
theorem dL_refuses_1064 : decode cL_refuses 1064 = .ok (.iload_n 1, 1) := by decide +kernel
theorem dL_refuses_1065 : decode cL_refuses 1065 = .ok (.bipush 9, 2) := by decide +kernel
theorem dL_refuses_1067 : decode cL_refuses 1067 = .ok (.irem, 1) := by decide +kernel
theorem dL_refuses_1068 : decode cL_refuses 1068 = .ok (.iadd, 1) := by decide +kernel
theorem dL_refuses_1069 : decode cL_refuses 1069 = .ok (.invokestatic 208, 3) := by decide +kernel
theorem dL_refuses_1072 : decode cL_refuses 1072 = .ok (.ldc 18, 2) := by decide +kernel
theorem dL_refuses_1074 : decode cL_refuses 1074 = .ok (.if_icmp .ne 7, 3) := by decide +kernel
theorem dL_refuses_1077 : decode cL_refuses 1077 = .ok (.iconst 1, 1) := by decide +kernel
theorem dL_refuses_1078 : decode cL_refuses 1078 = .ok (.goto 4, 3) := by decide +kernel
theorem dL_refuses_1081 : decode cL_refuses 1081 = .ok (.iconst 0, 1) := by decide +kernel
theorem dL_refuses_1082 : decode cL_refuses 1082 = .ok (.istore 7, 2) := by decide +kernel
theorem dL_refuses_1084 : decode cL_refuses 1084 = .ok (.iload 7, 2) := by decide +kernel
theorem dL_refuses_1086 : decode cL_refuses 1086 = .ok (.ifCond .eq 47, 3) := by decide +kernel
theorem dL_refuses_1089 : decode cL_refuses 1089 = .ok (.iload_n 2, 1) := by decide +kernel
theorem dL_refuses_1090 : decode cL_refuses 1090 = .ok (.bipush 10, 2) := by decide +kernel
theorem dL_refuses_1092 : decode cL_refuses 1092 = .ok (.if_icmp .lt 17, 3) := by decide +kernel
theorem dL_refuses_1095 : decode cL_refuses 1095 = .ok (.aload_n 0, 1) := by decide +kernel
theorem dL_refuses_1096 : decode cL_refuses 1096 = .ok (.bipush 9, 2) := by decide +kernel
theorem dL_refuses_1098 : decode cL_refuses 1098 = .ok (.iconst 0, 1) := by decide +kernel
theorem dL_refuses_1099 : decode cL_refuses 1099 = .ok (.iconst 5, 1) := by decide +kernel
theorem dL_refuses_1100 : decode cL_refuses 1100 = .ok (.iconst 0, 1) := by decide +kernel
theorem dL_refuses_1101 : decode cL_refuses 1101 = .ok (.invokestatic 190, 3) := by decide +kernel
theorem dL_refuses_1104 : decode cL_refuses 1104 = .ok (.ldc 37, 2) := by decide +kernel
theorem dL_refuses_1106 : decode cL_refuses 1106 = .ok (.if_icmp .ne 27, 3) := by decide +kernel
theorem dL_refuses_1109 : decode cL_refuses 1109 = .ok (.iload 6, 2) := by decide +kernel
theorem dL_refuses_1111 : decode cL_refuses 1111 = .ok (.iconst 3, 1) := by decide +kernel
theorem dL_refuses_1112 : decode cL_refuses 1112 = .ok (.if_icmp .lt 17, 3) := by decide +kernel
theorem dL_refuses_1115 : decode cL_refuses 1115 = .ok (.aload_n 0, 1) := by decide +kernel
theorem dL_refuses_1116 : decode cL_refuses 1116 = .ok (.bipush 11, 2) := by decide +kernel
theorem dL_refuses_1118 : decode cL_refuses 1118 = .ok (.iconst 0, 1) := by decide +kernel
theorem dL_refuses_1119 : decode cL_refuses 1119 = .ok (.iconst 5, 1) := by decide +kernel
theorem dL_refuses_1120 : decode cL_refuses 1120 = .ok (.iconst 5, 1) := by decide +kernel
theorem dL_refuses_1121 : decode cL_refuses 1121 = .ok (.invokestatic 190, 3) := by decide +kernel
theorem dL_refuses_1124 : decode cL_refuses 1124 = .ok (.ldc 37, 2) := by decide +kernel
theorem dL_refuses_1126 : decode cL_refuses 1126 = .ok (.if_icmp .ne 7, 3) := by decide +kernel
theorem dL_refuses_1129 : decode cL_refuses 1129 = .ok (.iconst 1, 1) := by decide +kernel
theorem dL_refuses_1130 : decode cL_refuses 1130 = .ok (.goto 4, 3) := by decide +kernel
theorem dL_refuses_1133 : decode cL_refuses 1133 = .ok (.iconst 0, 1) := by decide +kernel
theorem dL_refuses_1134 : decode cL_refuses 1134 = .ok (.ireturn, 1) := by decide +kernel
theorem dL_holds_0 : decode cL_holds 0 = .ok (.aload_n 0, 1) := by decide +kernel
theorem dL_holds_1 : decode cL_holds 1 = .ok (.iconst 2, 1) := by decide +kernel
theorem dL_holds_2 : decode cL_holds 2 = .ok (.iconst 0, 1) := by decide +kernel
theorem dL_holds_3 : decode cL_holds 3 = .ok (.iconst 0, 1) := by decide +kernel
theorem dL_holds_4 : decode cL_holds 4 = .ok (.iconst 0, 1) := by decide +kernel
theorem dL_holds_5 : decode cL_holds 5 = .ok (.invokestatic 190, 3) := by decide +kernel
theorem dL_holds_8 : decode cL_holds 8 = .ok (.istore_n 2, 1) := by decide +kernel
theorem dL_holds_9 : decode cL_holds 9 = .ok (.aload_n 0, 1) := by decide +kernel
theorem dL_holds_10 : decode cL_holds 10 = .ok (.iconst 2, 1) := by decide +kernel
theorem dL_holds_11 : decode cL_holds 11 = .ok (.iconst 1, 1) := by decide +kernel
theorem dL_holds_12 : decode cL_holds 12 = .ok (.iconst 0, 1) := by decide +kernel
theorem dL_holds_13 : decode cL_holds 13 = .ok (.iconst 0, 1) := by decide +kernel
theorem dL_holds_14 : decode cL_holds 14 = .ok (.invokestatic 190, 3) := by decide +kernel
theorem dL_holds_17 : decode cL_holds 17 = .ok (.istore_n 3, 1) := by decide +kernel
theorem dL_holds_18 : decode cL_holds 18 = .ok (.iconst 0, 1) := by decide +kernel
theorem dL_holds_19 : decode cL_holds 19 = .ok (.istore 4, 2) := by decide +kernel
theorem dL_holds_21 : decode cL_holds 21 = .ok (.iconst 0, 1) := by decide +kernel
theorem dL_holds_22 : decode cL_holds 22 = .ok (.istore 5, 2) := by decide +kernel
theorem dL_holds_24 : decode cL_holds 24 = .ok (.iconst 0, 1) := by decide +kernel
theorem dL_holds_25 : decode cL_holds 25 = .ok (.istore 6, 2) := by decide +kernel
theorem dL_holds_27 : decode cL_holds 27 = .ok (.iconst 0, 1) := by decide +kernel
theorem dL_holds_28 : decode cL_holds 28 = .ok (.istore 7, 2) := by decide +kernel
theorem dL_holds_30 : decode cL_holds 30 = .ok (.iconst 0, 1) := by decide +kernel
theorem dL_holds_31 : decode cL_holds 31 = .ok (.istore 8, 2) := by decide +kernel
theorem dL_holds_33 : decode cL_holds 33 = .ok (.iconst 0, 1) := by decide +kernel
theorem dL_holds_34 : decode cL_holds 34 = .ok (.istore 9, 2) := by decide +kernel
theorem dL_holds_36 : decode cL_holds 36 = .ok (.iconst 0, 1) := by decide +kernel
theorem dL_holds_37 : decode cL_holds 37 = .ok (.istore 10, 2) := by decide +kernel
theorem dL_holds_39 : decode cL_holds 39 = .ok (.iload_n 2, 1) := by decide +kernel
theorem dL_holds_40 : decode cL_holds 40 = .ok (.bipush 10, 2) := by decide +kernel
theorem dL_holds_42 : decode cL_holds 42 = .ok (.if_icmp .gt 7, 3) := by decide +kernel
theorem dL_holds_45 : decode cL_holds 45 = .ok (.iconst 1, 1) := by decide +kernel
theorem dL_holds_46 : decode cL_holds 46 = .ok (.goto 4, 3) := by decide +kernel
theorem dL_holds_49 : decode cL_holds 49 = .ok (.iconst 0, 1) := by decide +kernel
theorem dL_holds_50 : decode cL_holds 50 = .ok (.istore 11, 2) := by decide +kernel
theorem dL_holds_52 : decode cL_holds 52 = .ok (.iconst 0, 1) := by decide +kernel
theorem dL_holds_53 : decode cL_holds 53 = .ok (.istore 12, 2) := by decide +kernel
theorem dL_holds_55 : decode cL_holds 55 = .ok (.iload 12, 2) := by decide +kernel
theorem dL_holds_57 : decode cL_holds 57 = .ok (.iload_n 2, 1) := by decide +kernel
theorem dL_holds_58 : decode cL_holds 58 = .ok (.if_icmp .ge 519, 3) := by decide +kernel
theorem dL_holds_61 : decode cL_holds 61 = .ok (.iload 11, 2) := by decide +kernel
theorem dL_holds_63 : decode cL_holds 63 = .ok (.ifCond .eq 514, 3) := by decide +kernel
theorem dL_holds_66 : decode cL_holds 66 = .ok (.iconst 0, 1) := by decide +kernel
theorem dL_holds_67 : decode cL_holds 67 = .ok (.istore 13, 2) := by decide +kernel
theorem dL_holds_69 : decode cL_holds 69 = .ok (.iconst 0, 1) := by decide +kernel
theorem dL_holds_70 : decode cL_holds 70 = .ok (.istore 14, 2) := by decide +kernel
theorem dL_holds_72 : decode cL_holds 72 = .ok (.iload 14, 2) := by decide +kernel
theorem dL_holds_74 : decode cL_holds 74 = .ok (.bipush 7, 2) := by decide +kernel
theorem dL_holds_76 : decode cL_holds 76 = .ok (.if_icmp .ge 24, 3) := by decide +kernel
theorem dL_holds_79 : decode cL_holds 79 = .ok (.iload 13, 2) := by decide +kernel
theorem dL_holds_81 : decode cL_holds 81 = .ok (.aload_n 0, 1) := by decide +kernel
theorem dL_holds_82 : decode cL_holds 82 = .ok (.iconst 4, 1) := by decide +kernel
theorem dL_holds_83 : decode cL_holds 83 = .ok (.iload 12, 2) := by decide +kernel
theorem dL_holds_85 : decode cL_holds 85 = .ok (.iload 14, 2) := by decide +kernel
theorem dL_holds_87 : decode cL_holds 87 = .ok (.iconst 0, 1) := by decide +kernel
theorem dL_holds_88 : decode cL_holds 88 = .ok (.invokestatic 190, 3) := by decide +kernel
theorem dL_holds_91 : decode cL_holds 91 = .ok (.iadd, 1) := by decide +kernel
theorem dL_holds_92 : decode cL_holds 92 = .ok (.istore 13, 2) := by decide +kernel
theorem dL_holds_94 : decode cL_holds 94 = .ok (.iinc 14 1, 3) := by decide +kernel
theorem dL_holds_97 : decode cL_holds 97 = .ok (.goto (-25), 3) := by decide +kernel
theorem dL_holds_100 : decode cL_holds 100 = .ok (.aload_n 0, 1) := by decide +kernel
theorem dL_holds_101 : decode cL_holds 101 = .ok (.iconst 3, 1) := by decide +kernel
theorem dL_holds_102 : decode cL_holds 102 = .ok (.iload 12, 2) := by decide +kernel
theorem dL_holds_104 : decode cL_holds 104 = .ok (.bipush 9, 2) := by decide +kernel
theorem dL_holds_106 : decode cL_holds 106 = .ok (.iconst 0, 1) := by decide +kernel
theorem dL_holds_107 : decode cL_holds 107 = .ok (.invokestatic 190, 3) := by decide +kernel
theorem dL_holds_110 : decode cL_holds 110 = .ok (.istore 14, 2) := by decide +kernel
theorem dL_holds_112 : decode cL_holds 112 = .ok (.aload_n 0, 1) := by decide +kernel
theorem dL_holds_113 : decode cL_holds 113 = .ok (.iconst 3, 1) := by decide +kernel
theorem dL_holds_114 : decode cL_holds 114 = .ok (.iload 12, 2) := by decide +kernel
theorem dL_holds_116 : decode cL_holds 116 = .ok (.bipush 10, 2) := by decide +kernel
theorem dL_holds_118 : decode cL_holds 118 = .ok (.iconst 0, 1) := by decide +kernel
theorem dL_holds_119 : decode cL_holds 119 = .ok (.invokestatic 190, 3) := by decide +kernel
theorem dL_holds_122 : decode cL_holds 122 = .ok (.istore 15, 2) := by decide +kernel
theorem dL_holds_124 : decode cL_holds 124 = .ok (.aload_n 0, 1) := by decide +kernel
theorem dL_holds_125 : decode cL_holds 125 = .ok (.bipush 17, 2) := by decide +kernel
theorem dL_holds_127 : decode cL_holds 127 = .ok (.iload 12, 2) := by decide +kernel
theorem dL_holds_129 : decode cL_holds 129 = .ok (.iconst 0, 1) := by decide +kernel
theorem dL_holds_130 : decode cL_holds 130 = .ok (.iconst 0, 1) := by decide +kernel
theorem dL_holds_131 : decode cL_holds 131 = .ok (.invokestatic 190, 3) := by decide +kernel
theorem dL_holds_134 : decode cL_holds 134 = .ok (.istore 16, 2) := by decide +kernel
theorem dL_holds_136 : decode cL_holds 136 = .ok (.iload 4, 2) := by decide +kernel
theorem dL_holds_138 : decode cL_holds 138 = .ok (.aload_n 0, 1) := by decide +kernel
theorem dL_holds_139 : decode cL_holds 139 = .ok (.iconst 3, 1) := by decide +kernel
theorem dL_holds_140 : decode cL_holds 140 = .ok (.iload 12, 2) := by decide +kernel
theorem dL_holds_142 : decode cL_holds 142 = .ok (.iconst 3, 1) := by decide +kernel
theorem dL_holds_143 : decode cL_holds 143 = .ok (.iconst 0, 1) := by decide +kernel
theorem dL_holds_144 : decode cL_holds 144 = .ok (.invokestatic 190, 3) := by decide +kernel
theorem dL_holds_147 : decode cL_holds 147 = .ok (.iadd, 1) := by decide +kernel
theorem dL_holds_148 : decode cL_holds 148 = .ok (.istore 4, 2) := by decide +kernel
theorem dL_holds_150 : decode cL_holds 150 = .ok (.iload 5, 2) := by decide +kernel
theorem dL_holds_152 : decode cL_holds 152 = .ok (.aload_n 0, 1) := by decide +kernel
theorem dL_holds_153 : decode cL_holds 153 = .ok (.iconst 3, 1) := by decide +kernel
theorem dL_holds_154 : decode cL_holds 154 = .ok (.iload 12, 2) := by decide +kernel
theorem dL_holds_156 : decode cL_holds 156 = .ok (.iconst 4, 1) := by decide +kernel
theorem dL_holds_157 : decode cL_holds 157 = .ok (.iconst 0, 1) := by decide +kernel
theorem dL_holds_158 : decode cL_holds 158 = .ok (.invokestatic 190, 3) := by decide +kernel
theorem dL_holds_161 : decode cL_holds 161 = .ok (.iadd, 1) := by decide +kernel
theorem dL_holds_162 : decode cL_holds 162 = .ok (.istore 5, 2) := by decide +kernel
theorem dL_holds_164 : decode cL_holds 164 = .ok (.iload 6, 2) := by decide +kernel
theorem dL_holds_166 : decode cL_holds 166 = .ok (.aload_n 0, 1) := by decide +kernel
theorem dL_holds_167 : decode cL_holds 167 = .ok (.iconst 3, 1) := by decide +kernel
theorem dL_holds_168 : decode cL_holds 168 = .ok (.iload 12, 2) := by decide +kernel
theorem dL_holds_170 : decode cL_holds 170 = .ok (.iconst 5, 1) := by decide +kernel
theorem dL_holds_171 : decode cL_holds 171 = .ok (.iconst 0, 1) := by decide +kernel
theorem dL_holds_172 : decode cL_holds 172 = .ok (.invokestatic 190, 3) := by decide +kernel
theorem dL_holds_175 : decode cL_holds 175 = .ok (.iadd, 1) := by decide +kernel
theorem dL_holds_176 : decode cL_holds 176 = .ok (.istore 6, 2) := by decide +kernel
theorem dL_holds_178 : decode cL_holds 178 = .ok (.iload 8, 2) := by decide +kernel
theorem dL_holds_180 : decode cL_holds 180 = .ok (.aload_n 0, 1) := by decide +kernel
theorem dL_holds_181 : decode cL_holds 181 = .ok (.iconst 3, 1) := by decide +kernel
theorem dL_holds_182 : decode cL_holds 182 = .ok (.iload 12, 2) := by decide +kernel
theorem dL_holds_184 : decode cL_holds 184 = .ok (.bipush 6, 2) := by decide +kernel
theorem dL_holds_186 : decode cL_holds 186 = .ok (.iconst 0, 1) := by decide +kernel
theorem dL_holds_187 : decode cL_holds 187 = .ok (.invokestatic 190, 3) := by decide +kernel
theorem dL_holds_190 : decode cL_holds 190 = .ok (.iadd, 1) := by decide +kernel
theorem dL_holds_191 : decode cL_holds 191 = .ok (.istore 8, 2) := by decide +kernel
theorem dL_holds_193 : decode cL_holds 193 = .ok (.iload 9, 2) := by decide +kernel
theorem dL_holds_195 : decode cL_holds 195 = .ok (.aload_n 0, 1) := by decide +kernel
theorem dL_holds_196 : decode cL_holds 196 = .ok (.iconst 3, 1) := by decide +kernel
theorem dL_holds_197 : decode cL_holds 197 = .ok (.iload 12, 2) := by decide +kernel
theorem dL_holds_199 : decode cL_holds 199 = .ok (.bipush 7, 2) := by decide +kernel
theorem dL_holds_201 : decode cL_holds 201 = .ok (.iconst 0, 1) := by decide +kernel
theorem dL_holds_202 : decode cL_holds 202 = .ok (.invokestatic 190, 3) := by decide +kernel
theorem dL_holds_205 : decode cL_holds 205 = .ok (.iadd, 1) := by decide +kernel
theorem dL_holds_206 : decode cL_holds 206 = .ok (.istore 9, 2) := by decide +kernel
theorem dL_holds_208 : decode cL_holds 208 = .ok (.iload 7, 2) := by decide +kernel
theorem dL_holds_210 : decode cL_holds 210 = .ok (.aload_n 0, 1) := by decide +kernel
theorem dL_holds_211 : decode cL_holds 211 = .ok (.iconst 3, 1) := by decide +kernel
theorem dL_holds_212 : decode cL_holds 212 = .ok (.iload 12, 2) := by decide +kernel
theorem dL_holds_214 : decode cL_holds 214 = .ok (.iconst 2, 1) := by decide +kernel
theorem dL_holds_215 : decode cL_holds 215 = .ok (.iconst 0, 1) := by decide +kernel
theorem dL_holds_216 : decode cL_holds 216 = .ok (.invokestatic 190, 3) := by decide +kernel
theorem dL_holds_219 : decode cL_holds 219 = .ok (.iadd, 1) := by decide +kernel
theorem dL_holds_220 : decode cL_holds 220 = .ok (.istore 7, 2) := by decide +kernel
theorem dL_holds_222 : decode cL_holds 222 = .ok (.iload 10, 2) := by decide +kernel
theorem dL_holds_224 : decode cL_holds 224 = .ok (.iload 14, 2) := by decide +kernel
theorem dL_holds_226 : decode cL_holds 226 = .ok (.iadd, 1) := by decide +kernel
theorem dL_holds_227 : decode cL_holds 227 = .ok (.istore 10, 2) := by decide +kernel
theorem dL_holds_229 : decode cL_holds 229 = .ok (.iload 13, 2) := by decide +kernel
theorem dL_holds_231 : decode cL_holds 231 = .ok (.aload_n 0, 1) := by decide +kernel
theorem dL_holds_232 : decode cL_holds 232 = .ok (.iconst 3, 1) := by decide +kernel
theorem dL_holds_233 : decode cL_holds 233 = .ok (.iload 12, 2) := by decide +kernel
theorem dL_holds_235 : decode cL_holds 235 = .ok (.iconst 1, 1) := by decide +kernel
theorem dL_holds_236 : decode cL_holds 236 = .ok (.iconst 0, 1) := by decide +kernel
theorem dL_holds_237 : decode cL_holds 237 = .ok (.invokestatic 190, 3) := by decide +kernel
theorem dL_holds_240 : decode cL_holds 240 = .ok (.if_icmp .ne 213, 3) := by decide +kernel
theorem dL_holds_243 : decode cL_holds 243 = .ok (.aload_n 0, 1) := by decide +kernel
theorem dL_holds_244 : decode cL_holds 244 = .ok (.iconst 3, 1) := by decide +kernel
theorem dL_holds_245 : decode cL_holds 245 = .ok (.iload 12, 2) := by decide +kernel
theorem dL_holds_247 : decode cL_holds 247 = .ok (.iconst 2, 1) := by decide +kernel
theorem dL_holds_248 : decode cL_holds 248 = .ok (.iconst 0, 1) := by decide +kernel
theorem dL_holds_249 : decode cL_holds 249 = .ok (.invokestatic 190, 3) := by decide +kernel
theorem dL_holds_252 : decode cL_holds 252 = .ok (.ifCond .lt 201, 3) := by decide +kernel
theorem dL_holds_255 : decode cL_holds 255 = .ok (.iload 15, 2) := by decide +kernel
theorem dL_holds_257 : decode cL_holds 257 = .ok (.iconst (-1), 1) := by decide +kernel
theorem dL_holds_258 : decode cL_holds 258 = .ok (.if_icmp .eq 19, 3) := by decide +kernel
theorem dL_holds_261 : decode cL_holds 261 = .ok (.iload 15, 2) := by decide +kernel
theorem dL_holds_263 : decode cL_holds 263 = .ok (.iload_n 3, 1) := by decide +kernel
theorem dL_holds_264 : decode cL_holds 264 = .ok (.if_icmp .lt 189, 3) := by decide +kernel
theorem dL_holds_267 : decode cL_holds 267 = .ok (.iload 15, 2) := by decide +kernel
theorem dL_holds_269 : decode cL_holds 269 = .ok (.iload_n 3, 1) := by decide +kernel
theorem dL_holds_270 : decode cL_holds 270 = .ok (.sipush 200, 3) := by decide +kernel
theorem dL_holds_273 : decode cL_holds 273 = .ok (.iadd, 1) := by decide +kernel
theorem dL_holds_274 : decode cL_holds 274 = .ok (.if_icmp .gt 179, 3) := by decide +kernel
theorem dL_holds_277 : decode cL_holds 277 = .ok (.iload 15, 2) := by decide +kernel
theorem dL_holds_279 : decode cL_holds 279 = .ok (.iload_n 3, 1) := by decide +kernel
theorem dL_holds_280 : decode cL_holds 280 = .ok (.if_icmp .ne 7, 3) := by decide +kernel
theorem dL_holds_283 : decode cL_holds 283 = .ok (.iconst 1, 1) := by decide +kernel
theorem dL_holds_284 : decode cL_holds 284 = .ok (.goto 4, 3) := by decide +kernel
theorem dL_holds_287 : decode cL_holds 287 = .ok (.iconst 0, 1) := by decide +kernel
theorem dL_holds_288 : decode cL_holds 288 = .ok (.iload 14, 2) := by decide +kernel
theorem dL_holds_290 : decode cL_holds 290 = .ok (.ifCond .le 7, 3) := by decide +kernel
theorem dL_holds_293 : decode cL_holds 293 = .ok (.iconst 1, 1) := by decide +kernel
theorem dL_holds_294 : decode cL_holds 294 = .ok (.goto 4, 3) := by decide +kernel
theorem dL_holds_297 : decode cL_holds 297 = .ok (.iconst 0, 1) := by decide +kernel
theorem dL_holds_298 : decode cL_holds 298 = .ok (.if_icmp .ne 155, 3) := by decide +kernel
theorem dL_holds_301 : decode cL_holds 301 = .ok (.iload 14, 2) := by decide +kernel
theorem dL_holds_303 : decode cL_holds 303 = .ok (.ifCond .gt 15, 3) := by decide +kernel
theorem dL_holds_306 : decode cL_holds 306 = .ok (.iload 16, 2) := by decide +kernel
theorem dL_holds_308 : decode cL_holds 308 = .ok (.iconst 1, 1) := by decide +kernel
theorem dL_holds_309 : decode cL_holds 309 = .ok (.if_icmp .eq 9, 3) := by decide +kernel
theorem dL_holds_312 : decode cL_holds 312 = .ok (.iload 16, 2) := by decide +kernel
theorem dL_holds_314 : decode cL_holds 314 = .ok (.iconst 2, 1) := by decide +kernel
theorem dL_holds_315 : decode cL_holds 315 = .ok (.if_icmp .ne 138, 3) := by decide +kernel
theorem dL_holds_318 : decode cL_holds 318 = .ok (.iload 16, 2) := by decide +kernel
theorem dL_holds_320 : decode cL_holds 320 = .ok (.iconst 2, 1) := by decide +kernel
theorem dL_holds_321 : decode cL_holds 321 = .ok (.if_icmp .gt 13, 3) := by decide +kernel
theorem dL_holds_324 : decode cL_holds 324 = .ok (.iload 14, 2) := by decide +kernel
theorem dL_holds_326 : decode cL_holds 326 = .ok (.ifCond .eq 8, 3) := by decide +kernel
theorem dL_holds_329 : decode cL_holds 329 = .ok (.iload 16, 2) := by decide +kernel
theorem dL_holds_331 : decode cL_holds 331 = .ok (.ifCond .ne 122, 3) := by decide +kernel
theorem dL_holds_334 : decode cL_holds 334 = .ok (.aload_n 0, 1) := by decide +kernel
theorem dL_holds_335 : decode cL_holds 335 = .ok (.bipush 6, 2) := by decide +kernel
theorem dL_holds_337 : decode cL_holds 337 = .ok (.aload_n 0, 1) := by decide +kernel
theorem dL_holds_338 : decode cL_holds 338 = .ok (.iconst 3, 1) := by decide +kernel
theorem dL_holds_339 : decode cL_holds 339 = .ok (.iload 12, 2) := by decide +kernel
theorem dL_holds_341 : decode cL_holds 341 = .ok (.iconst 0, 1) := by decide +kernel
theorem dL_holds_342 : decode cL_holds 342 = .ok (.iconst 0, 1) := by decide +kernel
theorem dL_holds_343 : decode cL_holds 343 = .ok (.invokestatic 190, 3) := by decide +kernel
theorem dL_holds_346 : decode cL_holds 346 = .ok (.iload_n 3, 1) := by decide +kernel
theorem dL_holds_347 : decode cL_holds 347 = .ok (.bipush 7, 2) := by decide +kernel
theorem dL_holds_349 : decode cL_holds 349 = .ok (.irem, 1) := by decide +kernel
theorem dL_holds_350 : decode cL_holds 350 = .ok (.iconst 0, 1) := by decide +kernel
theorem dL_holds_351 : decode cL_holds 351 = .ok (.invokestatic 190, 3) := by decide +kernel
theorem dL_holds_354 : decode cL_holds 354 = .ok (.ifCond .eq 14, 3) := by decide +kernel
theorem dL_holds_357 : decode cL_holds 357 = .ok (.iload 16, 2) := by decide +kernel
theorem dL_holds_359 : decode cL_holds 359 = .ok (.ifCond .le 94, 3) := by decide +kernel
theorem dL_holds_362 : decode cL_holds 362 = .ok (.iload 16, 2) := by decide +kernel
theorem dL_holds_364 : decode cL_holds 364 = .ok (.iconst 4, 1) := by decide +kernel
theorem dL_holds_365 : decode cL_holds 365 = .ok (.if_icmp .ge 88, 3) := by decide +kernel
theorem dL_holds_368 : decode cL_holds 368 = .ok (.iload_n 3, 1) := by decide +kernel
theorem dL_holds_369 : decode cL_holds 369 = .ok (.sipush 999, 3) := by decide +kernel
theorem dL_holds_372 : decode cL_holds 372 = .ok (.if_icmp .gt 17, 3) := by decide +kernel
theorem dL_holds_375 : decode cL_holds 375 = .ok (.iload 14, 2) := by decide +kernel
theorem dL_holds_377 : decode cL_holds 377 = .ok (.aload_n 0, 1) := by decide +kernel
theorem dL_holds_378 : decode cL_holds 378 = .ok (.iload 12, 2) := by decide +kernel
theorem dL_holds_380 : decode cL_holds 380 = .ok (.iload_n 3, 1) := by decide +kernel
theorem dL_holds_381 : decode cL_holds 381 = .ok (.iconst 1, 1) := by decide +kernel
theorem dL_holds_382 : decode cL_holds 382 = .ok (.iconst 0, 1) := by decide +kernel
theorem dL_holds_383 : decode cL_holds 383 = .ok (.invokestatic 194, 3) := by decide +kernel
theorem dL_holds_386 : decode cL_holds 386 = .ok (.if_icmp .ne 67, 3) := by decide +kernel
theorem dL_holds_389 : decode cL_holds 389 = .ok (.aload_n 0, 1) := by decide +kernel
theorem dL_holds_390 : decode cL_holds 390 = .ok (.bipush 19, 2) := by decide +kernel
theorem dL_holds_392 : decode cL_holds 392 = .ok (.iload 12, 2) := by decide +kernel
theorem dL_holds_394 : decode cL_holds 394 = .ok (.iconst 0, 1) := by decide +kernel
theorem dL_holds_395 : decode cL_holds 395 = .ok (.iconst 0, 1) := by decide +kernel
theorem dL_holds_396 : decode cL_holds 396 = .ok (.invokestatic 190, 3) := by decide +kernel
theorem dL_holds_399 : decode cL_holds 399 = .ok (.ifCond .ne 7, 3) := by decide +kernel
theorem dL_holds_402 : decode cL_holds 402 = .ok (.iconst 1, 1) := by decide +kernel
theorem dL_holds_403 : decode cL_holds 403 = .ok (.goto 4, 3) := by decide +kernel
theorem dL_holds_406 : decode cL_holds 406 = .ok (.iconst 0, 1) := by decide +kernel
theorem dL_holds_407 : decode cL_holds 407 = .ok (.aload_n 0, 1) := by decide +kernel
theorem dL_holds_408 : decode cL_holds 408 = .ok (.iconst 3, 1) := by decide +kernel
theorem dL_holds_409 : decode cL_holds 409 = .ok (.iload 12, 2) := by decide +kernel
theorem dL_holds_411 : decode cL_holds 411 = .ok (.iconst 2, 1) := by decide +kernel
theorem dL_holds_412 : decode cL_holds 412 = .ok (.iconst 0, 1) := by decide +kernel
theorem dL_holds_413 : decode cL_holds 413 = .ok (.invokestatic 190, 3) := by decide +kernel
theorem dL_holds_416 : decode cL_holds 416 = .ok (.ifCond .ne 7, 3) := by decide +kernel
theorem dL_holds_419 : decode cL_holds 419 = .ok (.iconst 1, 1) := by decide +kernel
theorem dL_holds_420 : decode cL_holds 420 = .ok (.goto 4, 3) := by decide +kernel
theorem dL_holds_423 : decode cL_holds 423 = .ok (.iconst 0, 1) := by decide +kernel
theorem dL_holds_424 : decode cL_holds 424 = .ok (.if_icmp .ne 29, 3) := by decide +kernel
theorem dL_holds_427 : decode cL_holds 427 = .ok (.aload_n 0, 1) := by decide +kernel
theorem dL_holds_428 : decode cL_holds 428 = .ok (.bipush 18, 2) := by decide +kernel
theorem dL_holds_430 : decode cL_holds 430 = .ok (.iload 12, 2) := by decide +kernel
theorem dL_holds_432 : decode cL_holds 432 = .ok (.iconst 0, 1) := by decide +kernel
theorem dL_holds_433 : decode cL_holds 433 = .ok (.iconst 0, 1) := by decide +kernel
theorem dL_holds_434 : decode cL_holds 434 = .ok (.invokestatic 190, 3) := by decide +kernel
theorem dL_holds_437 : decode cL_holds 437 = .ok (.aload_n 0, 1) := by decide +kernel
theorem dL_holds_438 : decode cL_holds 438 = .ok (.iconst 3, 1) := by decide +kernel
theorem dL_holds_439 : decode cL_holds 439 = .ok (.iload 12, 2) := by decide +kernel
theorem dL_holds_441 : decode cL_holds 441 = .ok (.iconst 2, 1) := by decide +kernel
theorem dL_holds_442 : decode cL_holds 442 = .ok (.iconst 0, 1) := by decide +kernel
theorem dL_holds_443 : decode cL_holds 443 = .ok (.invokestatic 190, 3) := by decide +kernel
theorem dL_holds_446 : decode cL_holds 446 = .ok (.if_icmp .ne 7, 3) := by decide +kernel
theorem dL_holds_449 : decode cL_holds 449 = .ok (.iconst 1, 1) := by decide +kernel
theorem dL_holds_450 : decode cL_holds 450 = .ok (.goto 4, 3) := by decide +kernel
theorem dL_holds_453 : decode cL_holds 453 = .ok (.iconst 0, 1) := by decide +kernel
theorem dL_holds_454 : decode cL_holds 454 = .ok (.istore 11, 2) := by decide +kernel
theorem dL_holds_456 : decode cL_holds 456 = .ok (.iload_n 1, 1) := by decide +kernel
theorem dL_holds_457 : decode cL_holds 457 = .ok (.sipush 1000, 3) := by decide +kernel
theorem dL_holds_460 : decode cL_holds 460 = .ok (.irem, 1) := by decide +kernel
theorem dL_holds_461 : decode cL_holds 461 = .ok (.istore 17, 2) := by decide +kernel
theorem dL_holds_463 : decode cL_holds 463 = .ok (.iload_n 1, 1) := by decide +kernel
theorem dL_holds_464 : decode cL_holds 464 = .ok (.sipush 1000, 3) := by decide +kernel
theorem dL_holds_467 : decode cL_holds 467 = .ok (.idiv, 1) := by decide +kernel
theorem dL_holds_468 : decode cL_holds 468 = .ok (.sipush 400, 3) := by decide +kernel
theorem dL_holds_471 : decode cL_holds 471 = .ok (.irem, 1) := by decide +kernel
theorem dL_holds_472 : decode cL_holds 472 = .ok (.istore 18, 2) := by decide +kernel
theorem dL_holds_474 : decode cL_holds 474 = .ok (.iload 18, 2) := by decide +kernel
theorem dL_holds_476 : decode cL_holds 476 = .ok (.iconst 3, 1) := by decide +kernel
theorem dL_holds_477 : decode cL_holds 477 = .ok (.idiv, 1) := by decide +kernel
theorem dL_holds_478 : decode cL_holds 478 = .ok (.istore 19, 2) := by decide +kernel
theorem dL_holds_480 : decode cL_holds 480 = .ok (.iload 11, 2) := by decide +kernel
theorem dL_holds_482 : decode cL_holds 482 = .ok (.ifCond .eq 86, 3) := by decide +kernel
theorem dL_holds_485 : decode cL_holds 485 = .ok (.aload_n 0, 1) := by decide +kernel
theorem dL_holds_486 : decode cL_holds 486 = .ok (.iload 12, 2) := by decide +kernel
theorem dL_holds_488 : decode cL_holds 488 = .ok (.iload 17, 2) := by decide +kernel
theorem dL_holds_490 : decode cL_holds 490 = .ok (.iload 18, 2) := by decide +kernel
theorem dL_holds_492 : decode cL_holds 492 = .ok (.iconst 0, 1) := by decide +kernel
theorem dL_holds_493 : decode cL_holds 493 = .ok (.invokestatic 194, 3) := by decide +kernel
theorem dL_holds_496 : decode cL_holds 496 = .ok (.aload_n 0, 1) := by decide +kernel
theorem dL_holds_497 : decode cL_holds 497 = .ok (.iload 12, 2) := by decide +kernel
theorem dL_holds_499 : decode cL_holds 499 = .ok (.iload 17, 2) := by decide +kernel
theorem dL_holds_501 : decode cL_holds 501 = .ok (.iload 18, 2) := by decide +kernel
theorem dL_holds_503 : decode cL_holds 503 = .ok (.iconst 1, 1) := by decide +kernel
theorem dL_holds_504 : decode cL_holds 504 = .ok (.invokestatic 194, 3) := by decide +kernel
theorem dL_holds_507 : decode cL_holds 507 = .ok (.if_icmp .ne 61, 3) := by decide +kernel
theorem dL_holds_510 : decode cL_holds 510 = .ok (.iload 17, 2) := by decide +kernel
theorem dL_holds_512 : decode cL_holds 512 = .ok (.iload 19, 2) := by decide +kernel
theorem dL_holds_514 : decode cL_holds 514 = .ok (.iadd, 1) := by decide +kernel
theorem dL_holds_515 : decode cL_holds 515 = .ok (.sipush 999, 3) := by decide +kernel
theorem dL_holds_518 : decode cL_holds 518 = .ok (.if_icmp .gt 46, 3) := by decide +kernel
theorem dL_holds_521 : decode cL_holds 521 = .ok (.aload_n 0, 1) := by decide +kernel
theorem dL_holds_522 : decode cL_holds 522 = .ok (.iload 12, 2) := by decide +kernel
theorem dL_holds_524 : decode cL_holds 524 = .ok (.iload 17, 2) := by decide +kernel
theorem dL_holds_526 : decode cL_holds 526 = .ok (.iload 19, 2) := by decide +kernel
theorem dL_holds_528 : decode cL_holds 528 = .ok (.iconst 1, 1) := by decide +kernel
theorem dL_holds_529 : decode cL_holds 529 = .ok (.invokestatic 194, 3) := by decide +kernel
theorem dL_holds_532 : decode cL_holds 532 = .ok (.aload_n 0, 1) := by decide +kernel
theorem dL_holds_533 : decode cL_holds 533 = .ok (.iload 12, 2) := by decide +kernel
theorem dL_holds_535 : decode cL_holds 535 = .ok (.iload 17, 2) := by decide +kernel
theorem dL_holds_537 : decode cL_holds 537 = .ok (.iload 19, 2) := by decide +kernel
theorem dL_holds_539 : decode cL_holds 539 = .ok (.iadd, 1) := by decide +kernel
theorem dL_holds_540 : decode cL_holds 540 = .ok (.iload 18, 2) := by decide +kernel
theorem dL_holds_542 : decode cL_holds 542 = .ok (.iload 19, 2) := by decide +kernel
theorem dL_holds_544 : decode cL_holds 544 = .ok (.isub, 1) := by decide +kernel
theorem dL_holds_545 : decode cL_holds 545 = .ok (.iconst 1, 1) := by decide +kernel
theorem dL_holds_546 : decode cL_holds 546 = .ok (.invokestatic 194, 3) := by decide +kernel
theorem dL_holds_549 : decode cL_holds 549 = .ok (.iadd, 1) := by decide +kernel
theorem dL_holds_550 : decode cL_holds 550 = .ok (.aload_n 0, 1) := by decide +kernel
theorem dL_holds_551 : decode cL_holds 551 = .ok (.iload 12, 2) := by decide +kernel
theorem dL_holds_553 : decode cL_holds 553 = .ok (.iload 17, 2) := by decide +kernel
theorem dL_holds_555 : decode cL_holds 555 = .ok (.iload 18, 2) := by decide +kernel
theorem dL_holds_557 : decode cL_holds 557 = .ok (.iconst 1, 1) := by decide +kernel
theorem dL_holds_558 : decode cL_holds 558 = .ok (.invokestatic 194, 3) := by decide +kernel
theorem dL_holds_561 : decode cL_holds 561 = .ok (.if_icmp .ne 7, 3) := by decide +kernel
theorem dL_holds_564 : decode cL_holds 564 = .ok (.iconst 1, 1) := by decide +kernel
theorem dL_holds_565 : decode cL_holds 565 = .ok (.goto 4, 3) := by decide +kernel
theorem dL_holds_568 : decode cL_holds 568 = .ok (.iconst 0, 1) := by decide +kernel
theorem dL_holds_569 : decode cL_holds 569 = .ok (.istore 11, 2) := by decide +kernel
theorem dL_holds_571 : decode cL_holds 571 = .ok (.iinc 12 1, 3) := by decide +kernel
theorem dL_holds_574 : decode cL_holds 574 = .ok (.goto (-519), 3) := by decide +kernel
theorem dL_holds_577 : decode cL_holds 577 = .ok (.iconst 0, 1) := by decide +kernel
theorem dL_holds_578 : decode cL_holds 578 = .ok (.istore 12, 2) := by decide +kernel
theorem dL_holds_580 : decode cL_holds 580 = .ok (.iconst 0, 1) := by decide +kernel
theorem dL_holds_581 : decode cL_holds 581 = .ok (.istore 13, 2) := by decide +kernel
theorem dL_holds_583 : decode cL_holds 583 = .ok (.iload 13, 2) := by decide +kernel
theorem dL_holds_585 : decode cL_holds 585 = .ok (.iconst 4, 1) := by decide +kernel
theorem dL_holds_586 : decode cL_holds 586 = .ok (.if_icmp .ge 31, 3) := by decide +kernel
theorem dL_holds_589 : decode cL_holds 589 = .ok (.iload 11, 2) := by decide +kernel
theorem dL_holds_591 : decode cL_holds 591 = .ok (.ifCond .eq 26, 3) := by decide +kernel
theorem dL_holds_594 : decode cL_holds 594 = .ok (.iload 12, 2) := by decide +kernel
theorem dL_holds_596 : decode cL_holds 596 = .ok (.iconst 1, 1) := by decide +kernel
theorem dL_holds_597 : decode cL_holds 597 = .ok (.aload_n 0, 1) := by decide +kernel
theorem dL_holds_598 : decode cL_holds 598 = .ok (.bipush 7, 2) := by decide +kernel
theorem dL_holds_600 : decode cL_holds 600 = .ok (.iload 13, 2) := by decide +kernel
theorem dL_holds_602 : decode cL_holds 602 = .ok (.iconst 0, 1) := by decide +kernel
theorem dL_holds_603 : decode cL_holds 603 = .ok (.iconst 0, 1) := by decide +kernel
theorem dL_holds_604 : decode cL_holds 604 = .ok (.invokestatic 190, 3) := by decide +kernel
theorem dL_holds_607 : decode cL_holds 607 = .ok (.ishl, 1) := by decide +kernel
theorem dL_holds_608 : decode cL_holds 608 = .ok (.ior, 1) := by decide +kernel
theorem dL_holds_609 : decode cL_holds 609 = .ok (.istore 12, 2) := by decide +kernel
theorem dL_holds_611 : decode cL_holds 611 = .ok (.iinc 13 1, 3) := by decide +kernel
theorem dL_holds_614 : decode cL_holds 614 = .ok (.goto (-31), 3) := by decide +kernel
theorem dL_holds_617 : decode cL_holds 617 = .ok (.iload 11, 2) := by decide +kernel
theorem dL_holds_619 : decode cL_holds 619 = .ok (.ifCond .eq 135, 3) := by decide +kernel
theorem dL_holds_622 : decode cL_holds 622 = .ok (.iload 12, 2) := by decide +kernel
theorem dL_holds_624 : decode cL_holds 624 = .ok (.bipush 15, 2) := by decide +kernel
theorem dL_holds_626 : decode cL_holds 626 = .ok (.if_icmp .ne 128, 3) := by decide +kernel
theorem dL_holds_629 : decode cL_holds 629 = .ok (.iload 4, 2) := by decide +kernel
theorem dL_holds_631 : decode cL_holds 631 = .ok (.aload_n 0, 1) := by decide +kernel
theorem dL_holds_632 : decode cL_holds 632 = .ok (.iconst 2, 1) := by decide +kernel
theorem dL_holds_633 : decode cL_holds 633 = .ok (.iconst 3, 1) := by decide +kernel
theorem dL_holds_634 : decode cL_holds 634 = .ok (.iconst 0, 1) := by decide +kernel
theorem dL_holds_635 : decode cL_holds 635 = .ok (.iconst 0, 1) := by decide +kernel
theorem dL_holds_636 : decode cL_holds 636 = .ok (.invokestatic 190, 3) := by decide +kernel
theorem dL_holds_639 : decode cL_holds 639 = .ok (.if_icmp .ne 115, 3) := by decide +kernel
theorem dL_holds_642 : decode cL_holds 642 = .ok (.iload 5, 2) := by decide +kernel
theorem dL_holds_644 : decode cL_holds 644 = .ok (.aload_n 0, 1) := by decide +kernel
theorem dL_holds_645 : decode cL_holds 645 = .ok (.iconst 2, 1) := by decide +kernel
theorem dL_holds_646 : decode cL_holds 646 = .ok (.iconst 4, 1) := by decide +kernel
theorem dL_holds_647 : decode cL_holds 647 = .ok (.iconst 0, 1) := by decide +kernel
theorem dL_holds_648 : decode cL_holds 648 = .ok (.iconst 0, 1) := by decide +kernel
theorem dL_holds_649 : decode cL_holds 649 = .ok (.invokestatic 190, 3) := by decide +kernel
theorem dL_holds_652 : decode cL_holds 652 = .ok (.if_icmp .ne 102, 3) := by decide +kernel
theorem dL_holds_655 : decode cL_holds 655 = .ok (.iload 6, 2) := by decide +kernel
theorem dL_holds_657 : decode cL_holds 657 = .ok (.aload_n 0, 1) := by decide +kernel
theorem dL_holds_658 : decode cL_holds 658 = .ok (.iconst 2, 1) := by decide +kernel
theorem dL_holds_659 : decode cL_holds 659 = .ok (.bipush 7, 2) := by decide +kernel
theorem dL_holds_661 : decode cL_holds 661 = .ok (.iconst 0, 1) := by decide +kernel
theorem dL_holds_662 : decode cL_holds 662 = .ok (.iconst 0, 1) := by decide +kernel
theorem dL_holds_663 : decode cL_holds 663 = .ok (.invokestatic 190, 3) := by decide +kernel
theorem dL_holds_666 : decode cL_holds 666 = .ok (.if_icmp .ne 88, 3) := by decide +kernel
theorem dL_holds_669 : decode cL_holds 669 = .ok (.iload 7, 2) := by decide +kernel
theorem dL_holds_671 : decode cL_holds 671 = .ok (.aload_n 0, 1) := by decide +kernel
theorem dL_holds_672 : decode cL_holds 672 = .ok (.iconst 2, 1) := by decide +kernel
theorem dL_holds_673 : decode cL_holds 673 = .ok (.bipush 6, 2) := by decide +kernel
theorem dL_holds_675 : decode cL_holds 675 = .ok (.iconst 0, 1) := by decide +kernel
theorem dL_holds_676 : decode cL_holds 676 = .ok (.iconst 0, 1) := by decide +kernel
theorem dL_holds_677 : decode cL_holds 677 = .ok (.invokestatic 190, 3) := by decide +kernel
theorem dL_holds_680 : decode cL_holds 680 = .ok (.if_icmp .ne 74, 3) := by decide +kernel
theorem dL_holds_683 : decode cL_holds 683 = .ok (.iload 8, 2) := by decide +kernel
theorem dL_holds_685 : decode cL_holds 685 = .ok (.aload_n 0, 1) := by decide +kernel
theorem dL_holds_686 : decode cL_holds 686 = .ok (.iconst 2, 1) := by decide +kernel
theorem dL_holds_687 : decode cL_holds 687 = .ok (.bipush 10, 2) := by decide +kernel
theorem dL_holds_689 : decode cL_holds 689 = .ok (.iconst 0, 1) := by decide +kernel
theorem dL_holds_690 : decode cL_holds 690 = .ok (.iconst 0, 1) := by decide +kernel
theorem dL_holds_691 : decode cL_holds 691 = .ok (.invokestatic 190, 3) := by decide +kernel
theorem dL_holds_694 : decode cL_holds 694 = .ok (.if_icmp .ne 60, 3) := by decide +kernel
theorem dL_holds_697 : decode cL_holds 697 = .ok (.iload 9, 2) := by decide +kernel
theorem dL_holds_699 : decode cL_holds 699 = .ok (.aload_n 0, 1) := by decide +kernel
theorem dL_holds_700 : decode cL_holds 700 = .ok (.iconst 2, 1) := by decide +kernel
theorem dL_holds_701 : decode cL_holds 701 = .ok (.bipush 11, 2) := by decide +kernel
theorem dL_holds_703 : decode cL_holds 703 = .ok (.iconst 0, 1) := by decide +kernel
theorem dL_holds_704 : decode cL_holds 704 = .ok (.iconst 0, 1) := by decide +kernel
theorem dL_holds_705 : decode cL_holds 705 = .ok (.invokestatic 190, 3) := by decide +kernel
theorem dL_holds_708 : decode cL_holds 708 = .ok (.if_icmp .ne 46, 3) := by decide +kernel
theorem dL_holds_711 : decode cL_holds 711 = .ok (.iload 10, 2) := by decide +kernel
theorem dL_holds_713 : decode cL_holds 713 = .ok (.aload_n 0, 1) := by decide +kernel
theorem dL_holds_714 : decode cL_holds 714 = .ok (.iconst 2, 1) := by decide +kernel
theorem dL_holds_715 : decode cL_holds 715 = .ok (.bipush 12, 2) := by decide +kernel
theorem dL_holds_717 : decode cL_holds 717 = .ok (.iconst 0, 1) := by decide +kernel
theorem dL_holds_718 : decode cL_holds 718 = .ok (.iconst 0, 1) := by decide +kernel
theorem dL_holds_719 : decode cL_holds 719 = .ok (.invokestatic 190, 3) := by decide +kernel
theorem dL_holds_722 : decode cL_holds 722 = .ok (.if_icmp .ne 32, 3) := by decide +kernel
theorem dL_holds_725 : decode cL_holds 725 = .ok (.aload_n 0, 1) := by decide +kernel
theorem dL_holds_726 : decode cL_holds 726 = .ok (.iconst 2, 1) := by decide +kernel
theorem dL_holds_727 : decode cL_holds 727 = .ok (.iconst 2, 1) := by decide +kernel
theorem dL_holds_728 : decode cL_holds 728 = .ok (.iconst 0, 1) := by decide +kernel
theorem dL_holds_729 : decode cL_holds 729 = .ok (.iconst 0, 1) := by decide +kernel
theorem dL_holds_730 : decode cL_holds 730 = .ok (.invokestatic 190, 3) := by decide +kernel
theorem dL_holds_733 : decode cL_holds 733 = .ok (.iload 4, 2) := by decide +kernel
theorem dL_holds_735 : decode cL_holds 735 = .ok (.iload 5, 2) := by decide +kernel
theorem dL_holds_737 : decode cL_holds 737 = .ok (.iadd, 1) := by decide +kernel
theorem dL_holds_738 : decode cL_holds 738 = .ok (.aload_n 0, 1) := by decide +kernel
theorem dL_holds_739 : decode cL_holds 739 = .ok (.iconst 2, 1) := by decide +kernel
theorem dL_holds_740 : decode cL_holds 740 = .ok (.iconst 5, 1) := by decide +kernel
theorem dL_holds_741 : decode cL_holds 741 = .ok (.iconst 0, 1) := by decide +kernel
theorem dL_holds_742 : decode cL_holds 742 = .ok (.iconst 0, 1) := by decide +kernel
theorem dL_holds_743 : decode cL_holds 743 = .ok (.invokestatic 190, 3) := by decide +kernel
theorem dL_holds_746 : decode cL_holds 746 = .ok (.iadd, 1) := by decide +kernel
theorem dL_holds_747 : decode cL_holds 747 = .ok (.if_icmp .ne 7, 3) := by decide +kernel
theorem dL_holds_750 : decode cL_holds 750 = .ok (.iconst 1, 1) := by decide +kernel
theorem dL_holds_751 : decode cL_holds 751 = .ok (.goto 4, 3) := by decide +kernel
theorem dL_holds_754 : decode cL_holds 754 = .ok (.iconst 0, 1) := by decide +kernel
theorem dL_holds_755 : decode cL_holds 755 = .ok (.ireturn, 1) := by decide +kernel
theorem dL_act_0 : decode cL_act 0 = .ok (.iload_n 1, 1) := by decide +kernel
theorem dL_act_1 : decode cL_act 1 = .ok (.bipush 16, 2) := by decide +kernel
theorem dL_act_3 : decode cL_act 3 = .ok (.idiv, 1) := by decide +kernel
theorem dL_act_4 : decode cL_act 4 = .ok (.istore_n 2, 1) := by decide +kernel
theorem dL_act_5 : decode cL_act 5 = .ok (.iload_n 2, 1) := by decide +kernel
theorem dL_act_6 : decode cL_act 6 = .ok (.aload_n 0, 1) := by decide +kernel
theorem dL_act_7 : decode cL_act 7 = .ok (.iconst 2, 1) := by decide +kernel
theorem dL_act_8 : decode cL_act 8 = .ok (.iconst 0, 1) := by decide +kernel
theorem dL_act_9 : decode cL_act 9 = .ok (.iconst 0, 1) := by decide +kernel
theorem dL_act_10 : decode cL_act 10 = .ok (.iconst 0, 1) := by decide +kernel
theorem dL_act_11 : decode cL_act 11 = .ok (.invokestatic 190, 3) := by decide +kernel
theorem dL_act_14 : decode cL_act 14 = .ok (.irem, 1) := by decide +kernel
theorem dL_act_15 : decode cL_act 15 = .ok (.istore_n 3, 1) := by decide +kernel
theorem dL_act_16 : decode cL_act 16 = .ok (.aload_n 0, 1) := by decide +kernel
theorem dL_act_17 : decode cL_act 17 = .ok (.iconst 2, 1) := by decide +kernel
theorem dL_act_18 : decode cL_act 18 = .ok (.iconst 1, 1) := by decide +kernel
theorem dL_act_19 : decode cL_act 19 = .ok (.iconst 0, 1) := by decide +kernel
theorem dL_act_20 : decode cL_act 20 = .ok (.iconst 0, 1) := by decide +kernel
theorem dL_act_21 : decode cL_act 21 = .ok (.invokestatic 190, 3) := by decide +kernel
theorem dL_act_24 : decode cL_act 24 = .ok (.istore 4, 2) := by decide +kernel
theorem dL_act_26 : decode cL_act 26 = .ok (.iload_n 1, 1) := by decide +kernel
theorem dL_act_27 : decode cL_act 27 = .ok (.bipush 16, 2) := by decide +kernel
theorem dL_act_29 : decode cL_act 29 = .ok (.irem, 1) := by decide +kernel
theorem dL_act_30 : decode cL_act 30 = .ok (.tableswitch 281 0 10 #[58, 58, 75, 97, 134, 149, 177, 193, 206, 225, 245], 58) := by decide +kernel
theorem dL_act_88 : decode cL_act 88 = .ok (.aload_n 0, 1) := by decide +kernel
theorem dL_act_89 : decode cL_act 89 = .ok (.bipush 9, 2) := by decide +kernel
theorem dL_act_91 : decode cL_act 91 = .ok (.iload_n 2, 1) := by decide +kernel
theorem dL_act_92 : decode cL_act 92 = .ok (.iconst 4, 1) := by decide +kernel
theorem dL_act_93 : decode cL_act 93 = .ok (.irem, 1) := by decide +kernel
theorem dL_act_94 : decode cL_act 94 = .ok (.iload_n 2, 1) := by decide +kernel
theorem dL_act_95 : decode cL_act 95 = .ok (.iconst 4, 1) := by decide +kernel
theorem dL_act_96 : decode cL_act 96 = .ok (.idiv, 1) := by decide +kernel
theorem dL_act_97 : decode cL_act 97 = .ok (.ldc 197, 2) := by decide +kernel
theorem dL_act_99 : decode cL_act 99 = .ok (.irem, 1) := by decide +kernel
theorem dL_act_100 : decode cL_act 100 = .ok (.iconst 0, 1) := by decide +kernel
theorem dL_act_101 : decode cL_act 101 = .ok (.invokestatic 190, 3) := by decide +kernel
theorem dL_act_104 : decode cL_act 104 = .ok (.ireturn, 1) := by decide +kernel
theorem dL_act_105 : decode cL_act 105 = .ok (.aload_n 0, 1) := by decide +kernel
theorem dL_act_106 : decode cL_act 106 = .ok (.bipush 10, 2) := by decide +kernel
theorem dL_act_108 : decode cL_act 108 = .ok (.iload_n 3, 1) := by decide +kernel
theorem dL_act_109 : decode cL_act 109 = .ok (.iload_n 2, 1) := by decide +kernel
theorem dL_act_110 : decode cL_act 110 = .ok (.bipush 16, 2) := by decide +kernel
theorem dL_act_112 : decode cL_act 112 = .ok (.idiv, 1) := by decide +kernel
theorem dL_act_113 : decode cL_act 113 = .ok (.bipush 7, 2) := by decide +kernel
theorem dL_act_115 : decode cL_act 115 = .ok (.irem, 1) := by decide +kernel
theorem dL_act_116 : decode cL_act 116 = .ok (.iload_n 2, 1) := by decide +kernel
theorem dL_act_117 : decode cL_act 117 = .ok (.bipush 112, 2) := by decide +kernel
theorem dL_act_119 : decode cL_act 119 = .ok (.idiv, 1) := by decide +kernel
theorem dL_act_120 : decode cL_act 120 = .ok (.bipush 10, 2) := by decide +kernel
theorem dL_act_122 : decode cL_act 122 = .ok (.irem, 1) := by decide +kernel
theorem dL_act_123 : decode cL_act 123 = .ok (.invokestatic 190, 3) := by decide +kernel
theorem dL_act_126 : decode cL_act 126 = .ok (.ireturn, 1) := by decide +kernel
theorem dL_act_127 : decode cL_act 127 = .ok (.aload_n 0, 1) := by decide +kernel
theorem dL_act_128 : decode cL_act 128 = .ok (.bipush 11, 2) := by decide +kernel
theorem dL_act_130 : decode cL_act 130 = .ok (.iload_n 3, 1) := by decide +kernel
theorem dL_act_131 : decode cL_act 131 = .ok (.iload 4, 2) := by decide +kernel
theorem dL_act_133 : decode cL_act 133 = .ok (.iload_n 2, 1) := by decide +kernel
theorem dL_act_134 : decode cL_act 134 = .ok (.bipush 16, 2) := by decide +kernel
theorem dL_act_136 : decode cL_act 136 = .ok (.idiv, 1) := by decide +kernel
theorem dL_act_137 : decode cL_act 137 = .ok (.bipush 20, 2) := by decide +kernel
theorem dL_act_139 : decode cL_act 139 = .ok (.irem, 1) := by decide +kernel
theorem dL_act_140 : decode cL_act 140 = .ok (.iadd, 1) := by decide +kernel
theorem dL_act_141 : decode cL_act 141 = .ok (.iload 4, 2) := by decide +kernel
theorem dL_act_143 : decode cL_act 143 = .ok (.iload_n 2, 1) := by decide +kernel
theorem dL_act_144 : decode cL_act 144 = .ok (.bipush 16, 2) := by decide +kernel
theorem dL_act_146 : decode cL_act 146 = .ok (.idiv, 1) := by decide +kernel
theorem dL_act_147 : decode cL_act 147 = .ok (.bipush 20, 2) := by decide +kernel
theorem dL_act_149 : decode cL_act 149 = .ok (.irem, 1) := by decide +kernel
theorem dL_act_150 : decode cL_act 150 = .ok (.iadd, 1) := by decide +kernel
theorem dL_act_151 : decode cL_act 151 = .ok (.iload_n 2, 1) := by decide +kernel
theorem dL_act_152 : decode cL_act 152 = .ok (.sipush 512, 3) := by decide +kernel
theorem dL_act_155 : decode cL_act 155 = .ok (.idiv, 1) := by decide +kernel
theorem dL_act_156 : decode cL_act 156 = .ok (.bipush 9, 2) := by decide +kernel
theorem dL_act_158 : decode cL_act 158 = .ok (.irem, 1) := by decide +kernel
theorem dL_act_159 : decode cL_act 159 = .ok (.iadd, 1) := by decide +kernel
theorem dL_act_160 : decode cL_act 160 = .ok (.invokestatic 190, 3) := by decide +kernel
theorem dL_act_163 : decode cL_act 163 = .ok (.ireturn, 1) := by decide +kernel
theorem dL_act_164 : decode cL_act 164 = .ok (.aload_n 0, 1) := by decide +kernel
theorem dL_act_165 : decode cL_act 165 = .ok (.bipush 12, 2) := by decide +kernel
theorem dL_act_167 : decode cL_act 167 = .ok (.iload_n 3, 1) := by decide +kernel
theorem dL_act_168 : decode cL_act 168 = .ok (.iload_n 2, 1) := by decide +kernel
theorem dL_act_169 : decode cL_act 169 = .ok (.bipush 16, 2) := by decide +kernel
theorem dL_act_171 : decode cL_act 171 = .ok (.idiv, 1) := by decide +kernel
theorem dL_act_172 : decode cL_act 172 = .ok (.iconst 3, 1) := by decide +kernel
theorem dL_act_173 : decode cL_act 173 = .ok (.irem, 1) := by decide +kernel
theorem dL_act_174 : decode cL_act 174 = .ok (.iconst 0, 1) := by decide +kernel
theorem dL_act_175 : decode cL_act 175 = .ok (.invokestatic 190, 3) := by decide +kernel
theorem dL_act_178 : decode cL_act 178 = .ok (.ireturn, 1) := by decide +kernel
theorem dL_act_179 : decode cL_act 179 = .ok (.aload_n 0, 1) := by decide +kernel
theorem dL_act_180 : decode cL_act 180 = .ok (.iload_n 2, 1) := by decide +kernel
theorem dL_act_181 : decode cL_act 181 = .ok (.iconst 4, 1) := by decide +kernel
theorem dL_act_182 : decode cL_act 182 = .ok (.irem, 1) := by decide +kernel
theorem dL_act_183 : decode cL_act 183 = .ok (.iload_n 2, 1) := by decide +kernel
theorem dL_act_184 : decode cL_act 184 = .ok (.iconst 4, 1) := by decide +kernel
theorem dL_act_185 : decode cL_act 185 = .ok (.idiv, 1) := by decide +kernel
theorem dL_act_186 : decode cL_act 186 = .ok (.bipush 7, 2) := by decide +kernel
theorem dL_act_188 : decode cL_act 188 = .ok (.irem, 1) := by decide +kernel
theorem dL_act_189 : decode cL_act 189 = .ok (.iload_n 2, 1) := by decide +kernel
theorem dL_act_190 : decode cL_act 190 = .ok (.bipush 32, 2) := by decide +kernel
theorem dL_act_192 : decode cL_act 192 = .ok (.idiv, 1) := by decide +kernel
theorem dL_act_193 : decode cL_act 193 = .ok (.iconst 3, 1) := by decide +kernel
theorem dL_act_194 : decode cL_act 194 = .ok (.irem, 1) := by decide +kernel
theorem dL_act_195 : decode cL_act 195 = .ok (.ifCond .ne 7, 3) := by decide +kernel
theorem dL_act_198 : decode cL_act 198 = .ok (.iconst 1, 1) := by decide +kernel
theorem dL_act_199 : decode cL_act 199 = .ok (.goto 4, 3) := by decide +kernel
theorem dL_act_202 : decode cL_act 202 = .ok (.iconst 0, 1) := by decide +kernel
theorem dL_act_203 : decode cL_act 203 = .ok (.invokestatic 198, 3) := by decide +kernel
theorem dL_act_206 : decode cL_act 206 = .ok (.ireturn, 1) := by decide +kernel
theorem dL_act_207 : decode cL_act 207 = .ok (.aload_n 0, 1) := by decide +kernel
theorem dL_act_208 : decode cL_act 208 = .ok (.bipush 13, 2) := by decide +kernel
theorem dL_act_210 : decode cL_act 210 = .ok (.iload_n 2, 1) := by decide +kernel
theorem dL_act_211 : decode cL_act 211 = .ok (.iconst 4, 1) := by decide +kernel
theorem dL_act_212 : decode cL_act 212 = .ok (.irem, 1) := by decide +kernel
theorem dL_act_213 : decode cL_act 213 = .ok (.iload_n 2, 1) := by decide +kernel
theorem dL_act_214 : decode cL_act 214 = .ok (.iconst 4, 1) := by decide +kernel
theorem dL_act_215 : decode cL_act 215 = .ok (.idiv, 1) := by decide +kernel
theorem dL_act_216 : decode cL_act 216 = .ok (.iconst 4, 1) := by decide +kernel
theorem dL_act_217 : decode cL_act 217 = .ok (.irem, 1) := by decide +kernel
theorem dL_act_218 : decode cL_act 218 = .ok (.iconst 0, 1) := by decide +kernel
theorem dL_act_219 : decode cL_act 219 = .ok (.invokestatic 190, 3) := by decide +kernel
theorem dL_act_222 : decode cL_act 222 = .ok (.ireturn, 1) := by decide +kernel
theorem dL_act_223 : decode cL_act 223 = .ok (.aload_n 0, 1) := by decide +kernel
theorem dL_act_224 : decode cL_act 224 = .ok (.bipush 14, 2) := by decide +kernel
theorem dL_act_226 : decode cL_act 226 = .ok (.iconst 0, 1) := by decide +kernel
theorem dL_act_227 : decode cL_act 227 = .ok (.iload_n 2, 1) := by decide +kernel
theorem dL_act_228 : decode cL_act 228 = .ok (.bipush 60, 2) := by decide +kernel
theorem dL_act_230 : decode cL_act 230 = .ok (.irem, 1) := by decide +kernel
theorem dL_act_231 : decode cL_act 231 = .ok (.iconst 0, 1) := by decide +kernel
theorem dL_act_232 : decode cL_act 232 = .ok (.invokestatic 190, 3) := by decide +kernel
theorem dL_act_235 : decode cL_act 235 = .ok (.ireturn, 1) := by decide +kernel
theorem dL_act_236 : decode cL_act 236 = .ok (.aload_n 0, 1) := by decide +kernel
theorem dL_act_237 : decode cL_act 237 = .ok (.bipush 14, 2) := by decide +kernel
theorem dL_act_239 : decode cL_act 239 = .ok (.iconst 1, 1) := by decide +kernel
theorem dL_act_240 : decode cL_act 240 = .ok (.iload_n 2, 1) := by decide +kernel
theorem dL_act_241 : decode cL_act 241 = .ok (.iconst 4, 1) := by decide +kernel
theorem dL_act_242 : decode cL_act 242 = .ok (.irem, 1) := by decide +kernel
theorem dL_act_243 : decode cL_act 243 = .ok (.iadd, 1) := by decide +kernel
theorem dL_act_244 : decode cL_act 244 = .ok (.iload_n 2, 1) := by decide +kernel
theorem dL_act_245 : decode cL_act 245 = .ok (.iconst 4, 1) := by decide +kernel
theorem dL_act_246 : decode cL_act 246 = .ok (.idiv, 1) := by decide +kernel
theorem dL_act_247 : decode cL_act 247 = .ok (.bipush 10, 2) := by decide +kernel
theorem dL_act_249 : decode cL_act 249 = .ok (.irem, 1) := by decide +kernel
theorem dL_act_250 : decode cL_act 250 = .ok (.iconst 0, 1) := by decide +kernel
theorem dL_act_251 : decode cL_act 251 = .ok (.invokestatic 190, 3) := by decide +kernel
theorem dL_act_254 : decode cL_act 254 = .ok (.ireturn, 1) := by decide +kernel
theorem dL_act_255 : decode cL_act 255 = .ok (.iload 4, 2) := by decide +kernel
theorem dL_act_257 : decode cL_act 257 = .ok (.iconst 2, 1) := by decide +kernel
theorem dL_act_258 : decode cL_act 258 = .ok (.if_icmp .ge 7, 3) := by decide +kernel
theorem dL_act_261 : decode cL_act 261 = .ok (.iconst (-1), 1) := by decide +kernel
theorem dL_act_262 : decode cL_act 262 = .ok (.goto 12, 3) := by decide +kernel
theorem dL_act_265 : decode cL_act 265 = .ok (.aload_n 0, 1) := by decide +kernel
theorem dL_act_266 : decode cL_act 266 = .ok (.bipush 16, 2) := by decide +kernel
theorem dL_act_268 : decode cL_act 268 = .ok (.iconst 0, 1) := by decide +kernel
theorem dL_act_269 : decode cL_act 269 = .ok (.iconst 0, 1) := by decide +kernel
theorem dL_act_270 : decode cL_act 270 = .ok (.iconst 0, 1) := by decide +kernel
theorem dL_act_271 : decode cL_act 271 = .ok (.invokestatic 190, 3) := by decide +kernel
theorem dL_act_274 : decode cL_act 274 = .ok (.ireturn, 1) := by decide +kernel
theorem dL_act_275 : decode cL_act 275 = .ok (.iload_n 2, 1) := by decide +kernel
theorem dL_act_276 : decode cL_act 276 = .ok (.iconst 2, 1) := by decide +kernel
theorem dL_act_277 : decode cL_act 277 = .ok (.irem, 1) := by decide +kernel
theorem dL_act_278 : decode cL_act 278 = .ok (.ifCond .ne 19, 3) := by decide +kernel
theorem dL_act_281 : decode cL_act 281 = .ok (.aload_n 0, 1) := by decide +kernel
theorem dL_act_282 : decode cL_act 282 = .ok (.bipush 22, 2) := by decide +kernel
theorem dL_act_284 : decode cL_act 284 = .ok (.iload_n 2, 1) := by decide +kernel
theorem dL_act_285 : decode cL_act 285 = .ok (.iconst 2, 1) := by decide +kernel
theorem dL_act_286 : decode cL_act 286 = .ok (.idiv, 1) := by decide +kernel
theorem dL_act_287 : decode cL_act 287 = .ok (.iconst 2, 1) := by decide +kernel
theorem dL_act_288 : decode cL_act 288 = .ok (.irem, 1) := by decide +kernel
theorem dL_act_289 : decode cL_act 289 = .ok (.iconst 0, 1) := by decide +kernel
theorem dL_act_290 : decode cL_act 290 = .ok (.iconst 0, 1) := by decide +kernel
theorem dL_act_291 : decode cL_act 291 = .ok (.invokestatic 190, 3) := by decide +kernel
theorem dL_act_294 : decode cL_act 294 = .ok (.goto 16, 3) := by decide +kernel
theorem dL_act_297 : decode cL_act 297 = .ok (.aload_n 0, 1) := by decide +kernel
theorem dL_act_298 : decode cL_act 298 = .ok (.bipush 23, 2) := by decide +kernel
theorem dL_act_300 : decode cL_act 300 = .ok (.iload_n 2, 1) := by decide +kernel
theorem dL_act_301 : decode cL_act 301 = .ok (.iconst 2, 1) := by decide +kernel
theorem dL_act_302 : decode cL_act 302 = .ok (.idiv, 1) := by decide +kernel
theorem dL_act_303 : decode cL_act 303 = .ok (.iconst 2, 1) := by decide +kernel
theorem dL_act_304 : decode cL_act 304 = .ok (.irem, 1) := by decide +kernel
theorem dL_act_305 : decode cL_act 305 = .ok (.iconst 0, 1) := by decide +kernel
theorem dL_act_306 : decode cL_act 306 = .ok (.iconst 0, 1) := by decide +kernel
theorem dL_act_307 : decode cL_act 307 = .ok (.invokestatic 190, 3) := by decide +kernel
theorem dL_act_310 : decode cL_act 310 = .ok (.ireturn, 1) := by decide +kernel
theorem dL_act_311 : decode cL_act 311 = .ok (.aload_n 0, 1) := by decide +kernel
theorem dL_act_312 : decode cL_act 312 = .ok (.bipush 15, 2) := by decide +kernel
theorem dL_act_314 : decode cL_act 314 = .ok (.iconst 1, 1) := by decide +kernel
theorem dL_act_315 : decode cL_act 315 = .ok (.iload_n 2, 1) := by decide +kernel
theorem dL_act_316 : decode cL_act 316 = .ok (.bipush 9, 2) := by decide +kernel
theorem dL_act_318 : decode cL_act 318 = .ok (.irem, 1) := by decide +kernel
theorem dL_act_319 : decode cL_act 319 = .ok (.iadd, 1) := by decide +kernel
theorem dL_act_320 : decode cL_act 320 = .ok (.iconst 0, 1) := by decide +kernel
theorem dL_act_321 : decode cL_act 321 = .ok (.iconst 0, 1) := by decide +kernel
theorem dL_act_322 : decode cL_act 322 = .ok (.invokestatic 190, 3) := by decide +kernel
theorem dL_act_325 : decode cL_act 325 = .ok (.ireturn, 1) := by decide +kernel
theorem dL_alike_0 : decode cL_alike 0 = .ok (.aload_n 0, 1) := by decide +kernel
theorem dL_alike_1 : decode cL_alike 1 = .ok (.iload_n 2, 1) := by decide +kernel
theorem dL_alike_2 : decode cL_alike 2 = .ok (.i2l, 1) := by decide +kernel
theorem dL_alike_3 : decode cL_alike 3 = .ok (.iconst 1, 1) := by decide +kernel
theorem dL_alike_4 : decode cL_alike 4 = .ok (.iload_n 2, 1) := by decide +kernel
theorem dL_alike_5 : decode cL_alike 5 = .ok (.bipush 30, 2) := by decide +kernel
theorem dL_alike_7 : decode cL_alike 7 = .ok (.irem, 1) := by decide +kernel
theorem dL_alike_8 : decode cL_alike 8 = .ok (.iadd, 1) := by decide +kernel
theorem dL_alike_9 : decode cL_alike 9 = .ok (.invokestatic 208, 3) := by decide +kernel
theorem dL_alike_12 : decode cL_alike 12 = .ok (.aload_n 1, 1) := by decide +kernel
theorem dL_alike_13 : decode cL_alike 13 = .ok (.iload_n 2, 1) := by decide +kernel
theorem dL_alike_14 : decode cL_alike 14 = .ok (.i2l, 1) := by decide +kernel
theorem dL_alike_15 : decode cL_alike 15 = .ok (.iconst 1, 1) := by decide +kernel
theorem dL_alike_16 : decode cL_alike 16 = .ok (.iload_n 2, 1) := by decide +kernel
theorem dL_alike_17 : decode cL_alike 17 = .ok (.bipush 30, 2) := by decide +kernel
theorem dL_alike_19 : decode cL_alike 19 = .ok (.irem, 1) := by decide +kernel
theorem dL_alike_20 : decode cL_alike 20 = .ok (.iadd, 1) := by decide +kernel
theorem dL_alike_21 : decode cL_alike 21 = .ok (.invokestatic 208, 3) := by decide +kernel
theorem dL_alike_24 : decode cL_alike 24 = .ok (.if_icmp .ne 7, 3) := by decide +kernel
theorem dL_alike_27 : decode cL_alike 27 = .ok (.iconst 1, 1) := by decide +kernel
theorem dL_alike_28 : decode cL_alike 28 = .ok (.goto 4, 3) := by decide +kernel
theorem dL_alike_31 : decode cL_alike 31 = .ok (.iconst 0, 1) := by decide +kernel
theorem dL_alike_32 : decode cL_alike 32 = .ok (.istore_n 3, 1) := by decide +kernel
theorem dL_alike_33 : decode cL_alike 33 = .ok (.iconst 0, 1) := by decide +kernel
theorem dL_alike_34 : decode cL_alike 34 = .ok (.istore 4, 2) := by decide +kernel
theorem dL_alike_36 : decode cL_alike 36 = .ok (.iload 4, 2) := by decide +kernel
theorem dL_alike_38 : decode cL_alike 38 = .ok (.bipush 13, 2) := by decide +kernel
theorem dL_alike_40 : decode cL_alike 40 = .ok (.if_icmp .ge 181, 3) := by decide +kernel
theorem dL_alike_43 : decode cL_alike 43 = .ok (.iload_n 3, 1) := by decide +kernel
theorem dL_alike_44 : decode cL_alike 44 = .ok (.ifCond .eq 177, 3) := by decide +kernel
theorem dL_alike_47 : decode cL_alike 47 = .ok (.aload_n 0, 1) := by decide +kernel
theorem dL_alike_48 : decode cL_alike 48 = .ok (.iconst 2, 1) := by decide +kernel
theorem dL_alike_49 : decode cL_alike 49 = .ok (.iload 4, 2) := by decide +kernel
theorem dL_alike_51 : decode cL_alike 51 = .ok (.iconst 0, 1) := by decide +kernel
theorem dL_alike_52 : decode cL_alike 52 = .ok (.iconst 0, 1) := by decide +kernel
theorem dL_alike_53 : decode cL_alike 53 = .ok (.invokestatic 190, 3) := by decide +kernel
theorem dL_alike_56 : decode cL_alike 56 = .ok (.aload_n 1, 1) := by decide +kernel
theorem dL_alike_57 : decode cL_alike 57 = .ok (.iconst 2, 1) := by decide +kernel
theorem dL_alike_58 : decode cL_alike 58 = .ok (.iload 4, 2) := by decide +kernel
theorem dL_alike_60 : decode cL_alike 60 = .ok (.iconst 0, 1) := by decide +kernel
theorem dL_alike_61 : decode cL_alike 61 = .ok (.iconst 0, 1) := by decide +kernel
theorem dL_alike_62 : decode cL_alike 62 = .ok (.invokestatic 190, 3) := by decide +kernel
theorem dL_alike_65 : decode cL_alike 65 = .ok (.if_icmp .ne 148, 3) := by decide +kernel
theorem dL_alike_68 : decode cL_alike 68 = .ok (.aload_n 0, 1) := by decide +kernel
theorem dL_alike_69 : decode cL_alike 69 = .ok (.iconst 3, 1) := by decide +kernel
theorem dL_alike_70 : decode cL_alike 70 = .ok (.iload 4, 2) := by decide +kernel
theorem dL_alike_72 : decode cL_alike 72 = .ok (.iload_n 2, 1) := by decide +kernel
theorem dL_alike_73 : decode cL_alike 73 = .ok (.bipush 11, 2) := by decide +kernel
theorem dL_alike_75 : decode cL_alike 75 = .ok (.irem, 1) := by decide +kernel
theorem dL_alike_76 : decode cL_alike 76 = .ok (.iconst 0, 1) := by decide +kernel
theorem dL_alike_77 : decode cL_alike 77 = .ok (.invokestatic 190, 3) := by decide +kernel
theorem dL_alike_80 : decode cL_alike 80 = .ok (.aload_n 1, 1) := by decide +kernel
theorem dL_alike_81 : decode cL_alike 81 = .ok (.iconst 3, 1) := by decide +kernel
theorem dL_alike_82 : decode cL_alike 82 = .ok (.iload 4, 2) := by decide +kernel
theorem dL_alike_84 : decode cL_alike 84 = .ok (.iload_n 2, 1) := by decide +kernel
theorem dL_alike_85 : decode cL_alike 85 = .ok (.bipush 11, 2) := by decide +kernel
theorem dL_alike_87 : decode cL_alike 87 = .ok (.irem, 1) := by decide +kernel
theorem dL_alike_88 : decode cL_alike 88 = .ok (.iconst 0, 1) := by decide +kernel
theorem dL_alike_89 : decode cL_alike 89 = .ok (.invokestatic 190, 3) := by decide +kernel
theorem dL_alike_92 : decode cL_alike 92 = .ok (.if_icmp .ne 121, 3) := by decide +kernel
theorem dL_alike_95 : decode cL_alike 95 = .ok (.aload_n 0, 1) := by decide +kernel
theorem dL_alike_96 : decode cL_alike 96 = .ok (.iconst 4, 1) := by decide +kernel
theorem dL_alike_97 : decode cL_alike 97 = .ok (.iload 4, 2) := by decide +kernel
theorem dL_alike_99 : decode cL_alike 99 = .ok (.iload_n 2, 1) := by decide +kernel
theorem dL_alike_100 : decode cL_alike 100 = .ok (.bipush 7, 2) := by decide +kernel
theorem dL_alike_102 : decode cL_alike 102 = .ok (.irem, 1) := by decide +kernel
theorem dL_alike_103 : decode cL_alike 103 = .ok (.iconst 0, 1) := by decide +kernel
theorem dL_alike_104 : decode cL_alike 104 = .ok (.invokestatic 190, 3) := by decide +kernel
theorem dL_alike_107 : decode cL_alike 107 = .ok (.aload_n 1, 1) := by decide +kernel
theorem dL_alike_108 : decode cL_alike 108 = .ok (.iconst 4, 1) := by decide +kernel
theorem dL_alike_109 : decode cL_alike 109 = .ok (.iload 4, 2) := by decide +kernel
theorem dL_alike_111 : decode cL_alike 111 = .ok (.iload_n 2, 1) := by decide +kernel
theorem dL_alike_112 : decode cL_alike 112 = .ok (.bipush 7, 2) := by decide +kernel
theorem dL_alike_114 : decode cL_alike 114 = .ok (.irem, 1) := by decide +kernel
theorem dL_alike_115 : decode cL_alike 115 = .ok (.iconst 0, 1) := by decide +kernel
theorem dL_alike_116 : decode cL_alike 116 = .ok (.invokestatic 190, 3) := by decide +kernel
theorem dL_alike_119 : decode cL_alike 119 = .ok (.if_icmp .ne 94, 3) := by decide +kernel
theorem dL_alike_122 : decode cL_alike 122 = .ok (.aload_n 0, 1) := by decide +kernel
theorem dL_alike_123 : decode cL_alike 123 = .ok (.iconst 5, 1) := by decide +kernel
theorem dL_alike_124 : decode cL_alike 124 = .ok (.iload 4, 2) := by decide +kernel
theorem dL_alike_126 : decode cL_alike 126 = .ok (.iload_n 2, 1) := by decide +kernel
theorem dL_alike_127 : decode cL_alike 127 = .ok (.iconst 3, 1) := by decide +kernel
theorem dL_alike_128 : decode cL_alike 128 = .ok (.irem, 1) := by decide +kernel
theorem dL_alike_129 : decode cL_alike 129 = .ok (.iload_n 2, 1) := by decide +kernel
theorem dL_alike_130 : decode cL_alike 130 = .ok (.iconst 2, 1) := by decide +kernel
theorem dL_alike_131 : decode cL_alike 131 = .ok (.irem, 1) := by decide +kernel
theorem dL_alike_132 : decode cL_alike 132 = .ok (.invokestatic 190, 3) := by decide +kernel
theorem dL_alike_135 : decode cL_alike 135 = .ok (.aload_n 1, 1) := by decide +kernel
theorem dL_alike_136 : decode cL_alike 136 = .ok (.iconst 5, 1) := by decide +kernel
theorem dL_alike_137 : decode cL_alike 137 = .ok (.iload 4, 2) := by decide +kernel
theorem dL_alike_139 : decode cL_alike 139 = .ok (.iload_n 2, 1) := by decide +kernel
theorem dL_alike_140 : decode cL_alike 140 = .ok (.iconst 3, 1) := by decide +kernel
theorem dL_alike_141 : decode cL_alike 141 = .ok (.irem, 1) := by decide +kernel
theorem dL_alike_142 : decode cL_alike 142 = .ok (.iload_n 2, 1) := by decide +kernel
theorem dL_alike_143 : decode cL_alike 143 = .ok (.iconst 2, 1) := by decide +kernel
theorem dL_alike_144 : decode cL_alike 144 = .ok (.irem, 1) := by decide +kernel
theorem dL_alike_145 : decode cL_alike 145 = .ok (.invokestatic 190, 3) := by decide +kernel
theorem dL_alike_148 : decode cL_alike 148 = .ok (.if_icmp .ne 65, 3) := by decide +kernel
theorem dL_alike_151 : decode cL_alike 151 = .ok (.aload_n 0, 1) := by decide +kernel
theorem dL_alike_152 : decode cL_alike 152 = .ok (.bipush 6, 2) := by decide +kernel
theorem dL_alike_154 : decode cL_alike 154 = .ok (.iload 4, 2) := by decide +kernel
theorem dL_alike_156 : decode cL_alike 156 = .ok (.iconst 4, 1) := by decide +kernel
theorem dL_alike_157 : decode cL_alike 157 = .ok (.irem, 1) := by decide +kernel
theorem dL_alike_158 : decode cL_alike 158 = .ok (.iload 4, 2) := by decide +kernel
theorem dL_alike_160 : decode cL_alike 160 = .ok (.bipush 7, 2) := by decide +kernel
theorem dL_alike_162 : decode cL_alike 162 = .ok (.irem, 1) := by decide +kernel
theorem dL_alike_163 : decode cL_alike 163 = .ok (.iconst 0, 1) := by decide +kernel
theorem dL_alike_164 : decode cL_alike 164 = .ok (.invokestatic 190, 3) := by decide +kernel
theorem dL_alike_167 : decode cL_alike 167 = .ok (.aload_n 1, 1) := by decide +kernel
theorem dL_alike_168 : decode cL_alike 168 = .ok (.bipush 6, 2) := by decide +kernel
theorem dL_alike_170 : decode cL_alike 170 = .ok (.iload 4, 2) := by decide +kernel
theorem dL_alike_172 : decode cL_alike 172 = .ok (.iconst 4, 1) := by decide +kernel
theorem dL_alike_173 : decode cL_alike 173 = .ok (.irem, 1) := by decide +kernel
theorem dL_alike_174 : decode cL_alike 174 = .ok (.iload 4, 2) := by decide +kernel
theorem dL_alike_176 : decode cL_alike 176 = .ok (.bipush 7, 2) := by decide +kernel
theorem dL_alike_178 : decode cL_alike 178 = .ok (.irem, 1) := by decide +kernel
theorem dL_alike_179 : decode cL_alike 179 = .ok (.iconst 0, 1) := by decide +kernel
theorem dL_alike_180 : decode cL_alike 180 = .ok (.invokestatic 190, 3) := by decide +kernel
theorem dL_alike_183 : decode cL_alike 183 = .ok (.if_icmp .ne 30, 3) := by decide +kernel
theorem dL_alike_186 : decode cL_alike 186 = .ok (.aload_n 0, 1) := by decide +kernel
theorem dL_alike_187 : decode cL_alike 187 = .ok (.bipush 8, 2) := by decide +kernel
theorem dL_alike_189 : decode cL_alike 189 = .ok (.iload 4, 2) := by decide +kernel
theorem dL_alike_191 : decode cL_alike 191 = .ok (.iconst 0, 1) := by decide +kernel
theorem dL_alike_192 : decode cL_alike 192 = .ok (.iconst 0, 1) := by decide +kernel
theorem dL_alike_193 : decode cL_alike 193 = .ok (.invokestatic 190, 3) := by decide +kernel
theorem dL_alike_196 : decode cL_alike 196 = .ok (.aload_n 1, 1) := by decide +kernel
theorem dL_alike_197 : decode cL_alike 197 = .ok (.bipush 8, 2) := by decide +kernel
theorem dL_alike_199 : decode cL_alike 199 = .ok (.iload 4, 2) := by decide +kernel
theorem dL_alike_201 : decode cL_alike 201 = .ok (.iconst 0, 1) := by decide +kernel
theorem dL_alike_202 : decode cL_alike 202 = .ok (.iconst 0, 1) := by decide +kernel
theorem dL_alike_203 : decode cL_alike 203 = .ok (.invokestatic 190, 3) := by decide +kernel
theorem dL_alike_206 : decode cL_alike 206 = .ok (.if_icmp .ne 7, 3) := by decide +kernel
theorem dL_alike_209 : decode cL_alike 209 = .ok (.iconst 1, 1) := by decide +kernel
theorem dL_alike_210 : decode cL_alike 210 = .ok (.goto 4, 3) := by decide +kernel
theorem dL_alike_213 : decode cL_alike 213 = .ok (.iconst 0, 1) := by decide +kernel
theorem dL_alike_214 : decode cL_alike 214 = .ok (.istore_n 3, 1) := by decide +kernel
theorem dL_alike_215 : decode cL_alike 215 = .ok (.iinc 4 1, 3) := by decide +kernel
theorem dL_alike_218 : decode cL_alike 218 = .ok (.goto (-182), 3) := by decide +kernel
theorem dL_alike_221 : decode cL_alike 221 = .ok (.iload_n 3, 1) := by decide +kernel
theorem dL_alike_222 : decode cL_alike 222 = .ok (.ireturn, 1) := by decide +kernel
theorem dL_law_0 : decode cL_law 0 = .ok (.new 8, 3) := by decide +kernel
theorem dL_law_3 : decode cL_law 3 = .ok (.dup, 1) := by decide +kernel
theorem dL_law_4 : decode cL_law 4 = .ok (.invokespecial 212, 3) := by decide +kernel
theorem dL_law_7 : decode cL_law 7 = .ok (.astore_n 1, 1) := by decide +kernel
theorem dL_law_8 : decode cL_law 8 = .ok (.new 8, 3) := by decide +kernel
theorem dL_law_11 : decode cL_law 11 = .ok (.dup, 1) := by decide +kernel
theorem dL_law_12 : decode cL_law 12 = .ok (.invokespecial 212, 3) := by decide +kernel
theorem dL_law_15 : decode cL_law 15 = .ok (.astore_n 2, 1) := by decide +kernel
theorem dL_law_16 : decode cL_law 16 = .ok (.bipush 14, 2) := by decide +kernel
theorem dL_law_18 : decode cL_law 18 = .ok (.aload_n 0, 1) := by decide +kernel
theorem dL_law_19 : decode cL_law 19 = .ok (.iconst 0, 1) := by decide +kernel
theorem dL_law_20 : decode cL_law 20 = .ok (.invokestatic 213, 3) := by decide +kernel
theorem dL_law_23 : decode cL_law 23 = .ok (.bipush 23, 2) := by decide +kernel
theorem dL_law_25 : decode cL_law 25 = .ok (.irem, 1) := by decide +kernel
theorem dL_law_26 : decode cL_law 26 = .ok (.iadd, 1) := by decide +kernel
theorem dL_law_27 : decode cL_law 27 = .ok (.istore_n 3, 1) := by decide +kernel
theorem dL_law_28 : decode cL_law 28 = .ok (.aload_n 0, 1) := by decide +kernel
theorem dL_law_29 : decode cL_law 29 = .ok (.iconst 1, 1) := by decide +kernel
theorem dL_law_30 : decode cL_law 30 = .ok (.invokestatic 213, 3) := by decide +kernel
theorem dL_law_33 : decode cL_law 33 = .ok (.istore 4, 2) := by decide +kernel
theorem dL_law_35 : decode cL_law 35 = .ok (.aload_n 1, 1) := by decide +kernel
theorem dL_law_36 : decode cL_law 36 = .ok (.bipush 9, 2) := by decide +kernel
theorem dL_law_38 : decode cL_law 38 = .ok (.iload 4, 2) := by decide +kernel
theorem dL_law_40 : decode cL_law 40 = .ok (.iconst 4, 1) := by decide +kernel
theorem dL_law_41 : decode cL_law 41 = .ok (.irem, 1) := by decide +kernel
theorem dL_law_42 : decode cL_law 42 = .ok (.iload 4, 2) := by decide +kernel
theorem dL_law_44 : decode cL_law 44 = .ok (.iconst 4, 1) := by decide +kernel
theorem dL_law_45 : decode cL_law 45 = .ok (.idiv, 1) := by decide +kernel
theorem dL_law_46 : decode cL_law 46 = .ok (.ldc 197, 2) := by decide +kernel
theorem dL_law_48 : decode cL_law 48 = .ok (.irem, 1) := by decide +kernel
theorem dL_law_49 : decode cL_law 49 = .ok (.iconst 0, 1) := by decide +kernel
theorem dL_law_50 : decode cL_law 50 = .ok (.invokestatic 190, 3) := by decide +kernel
theorem dL_law_53 : decode cL_law 53 = .ok (.ifCond .ne 80, 3) := by decide +kernel
theorem dL_law_56 : decode cL_law 56 = .ok (.aload_n 2, 1) := by decide +kernel
theorem dL_law_57 : decode cL_law 57 = .ok (.bipush 9, 2) := by decide +kernel
theorem dL_law_59 : decode cL_law 59 = .ok (.iload 4, 2) := by decide +kernel
theorem dL_law_61 : decode cL_law 61 = .ok (.iconst 4, 1) := by decide +kernel
theorem dL_law_62 : decode cL_law 62 = .ok (.irem, 1) := by decide +kernel
theorem dL_law_63 : decode cL_law 63 = .ok (.iload 4, 2) := by decide +kernel
theorem dL_law_65 : decode cL_law 65 = .ok (.iconst 4, 1) := by decide +kernel
theorem dL_law_66 : decode cL_law 66 = .ok (.idiv, 1) := by decide +kernel
theorem dL_law_67 : decode cL_law 67 = .ok (.ldc 197, 2) := by decide +kernel
theorem dL_law_69 : decode cL_law 69 = .ok (.irem, 1) := by decide +kernel
theorem dL_law_70 : decode cL_law 70 = .ok (.iconst 0, 1) := by decide +kernel
theorem dL_law_71 : decode cL_law 71 = .ok (.invokestatic 190, 3) := by decide +kernel
theorem dL_law_74 : decode cL_law 74 = .ok (.ifCond .ne 59, 3) := by decide +kernel
theorem dL_law_77 : decode cL_law 77 = .ok (.aload_n 1, 1) := by decide +kernel
theorem dL_law_78 : decode cL_law 78 = .ok (.bipush 9, 2) := by decide +kernel
theorem dL_law_80 : decode cL_law 80 = .ok (.iload 4, 2) := by decide +kernel
theorem dL_law_82 : decode cL_law 82 = .ok (.bipush 7, 2) := by decide +kernel
theorem dL_law_84 : decode cL_law 84 = .ok (.idiv, 1) := by decide +kernel
theorem dL_law_85 : decode cL_law 85 = .ok (.iconst 4, 1) := by decide +kernel
theorem dL_law_86 : decode cL_law 86 = .ok (.irem, 1) := by decide +kernel
theorem dL_law_87 : decode cL_law 87 = .ok (.iload 4, 2) := by decide +kernel
theorem dL_law_89 : decode cL_law 89 = .ok (.bipush 9, 2) := by decide +kernel
theorem dL_law_91 : decode cL_law 91 = .ok (.idiv, 1) := by decide +kernel
theorem dL_law_92 : decode cL_law 92 = .ok (.ldc 197, 2) := by decide +kernel
theorem dL_law_94 : decode cL_law 94 = .ok (.irem, 1) := by decide +kernel
theorem dL_law_95 : decode cL_law 95 = .ok (.iconst 0, 1) := by decide +kernel
theorem dL_law_96 : decode cL_law 96 = .ok (.invokestatic 190, 3) := by decide +kernel
theorem dL_law_99 : decode cL_law 99 = .ok (.iconst 1, 1) := by decide +kernel
theorem dL_law_100 : decode cL_law 100 = .ok (.if_icmp .ne 33, 3) := by decide +kernel
theorem dL_law_103 : decode cL_law 103 = .ok (.aload_n 2, 1) := by decide +kernel
theorem dL_law_104 : decode cL_law 104 = .ok (.bipush 9, 2) := by decide +kernel
theorem dL_law_106 : decode cL_law 106 = .ok (.iload 4, 2) := by decide +kernel
theorem dL_law_108 : decode cL_law 108 = .ok (.bipush 7, 2) := by decide +kernel
theorem dL_law_110 : decode cL_law 110 = .ok (.idiv, 1) := by decide +kernel
theorem dL_law_111 : decode cL_law 111 = .ok (.iconst 4, 1) := by decide +kernel
theorem dL_law_112 : decode cL_law 112 = .ok (.irem, 1) := by decide +kernel
theorem dL_law_113 : decode cL_law 113 = .ok (.iload 4, 2) := by decide +kernel
theorem dL_law_115 : decode cL_law 115 = .ok (.bipush 9, 2) := by decide +kernel
theorem dL_law_117 : decode cL_law 117 = .ok (.idiv, 1) := by decide +kernel
theorem dL_law_118 : decode cL_law 118 = .ok (.ldc 197, 2) := by decide +kernel
theorem dL_law_120 : decode cL_law 120 = .ok (.irem, 1) := by decide +kernel
theorem dL_law_121 : decode cL_law 121 = .ok (.iconst 0, 1) := by decide +kernel
theorem dL_law_122 : decode cL_law 122 = .ok (.invokestatic 190, 3) := by decide +kernel
theorem dL_law_125 : decode cL_law 125 = .ok (.iconst 1, 1) := by decide +kernel
theorem dL_law_126 : decode cL_law 126 = .ok (.if_icmp .ne 7, 3) := by decide +kernel
theorem dL_law_129 : decode cL_law 129 = .ok (.iconst 1, 1) := by decide +kernel
theorem dL_law_130 : decode cL_law 130 = .ok (.goto 4, 3) := by decide +kernel
theorem dL_law_133 : decode cL_law 133 = .ok (.iconst 0, 1) := by decide +kernel
theorem dL_law_134 : decode cL_law 134 = .ok (.istore 5, 2) := by decide +kernel
theorem dL_law_136 : decode cL_law 136 = .ok (.iconst 0, 1) := by decide +kernel
theorem dL_law_137 : decode cL_law 137 = .ok (.istore 6, 2) := by decide +kernel
theorem dL_law_139 : decode cL_law 139 = .ok (.iload 6, 2) := by decide +kernel
theorem dL_law_141 : decode cL_law 141 = .ok (.iload_n 3, 1) := by decide +kernel
theorem dL_law_142 : decode cL_law 142 = .ok (.if_icmp .ge 154, 3) := by decide +kernel
theorem dL_law_145 : decode cL_law 145 = .ok (.iload 5, 2) := by decide +kernel
theorem dL_law_147 : decode cL_law 147 = .ok (.ifCond .eq 149, 3) := by decide +kernel
theorem dL_law_150 : decode cL_law 150 = .ok (.aload_n 0, 1) := by decide +kernel
theorem dL_law_151 : decode cL_law 151 = .ok (.iconst 2, 1) := by decide +kernel
theorem dL_law_152 : decode cL_law 152 = .ok (.iload 6, 2) := by decide +kernel
theorem dL_law_154 : decode cL_law 154 = .ok (.iadd, 1) := by decide +kernel
theorem dL_law_155 : decode cL_law 155 = .ok (.invokestatic 213, 3) := by decide +kernel
theorem dL_law_158 : decode cL_law 158 = .ok (.istore 7, 2) := by decide +kernel
theorem dL_law_160 : decode cL_law 160 = .ok (.aload_n 1, 1) := by decide +kernel
theorem dL_law_161 : decode cL_law 161 = .ok (.iload 7, 2) := by decide +kernel
theorem dL_law_163 : decode cL_law 163 = .ok (.invokestatic 217, 3) := by decide +kernel
theorem dL_law_166 : decode cL_law 166 = .ok (.istore 8, 2) := by decide +kernel
theorem dL_law_168 : decode cL_law 168 = .ok (.aload_n 2, 1) := by decide +kernel
theorem dL_law_169 : decode cL_law 169 = .ok (.iload 7, 2) := by decide +kernel
theorem dL_law_171 : decode cL_law 171 = .ok (.ldc 220, 2) := by decide +kernel
theorem dL_law_173 : decode cL_law 173 = .ok (.irem, 1) := by decide +kernel
theorem dL_law_174 : decode cL_law 174 = .ok (.invokestatic 221, 3) := by decide +kernel
theorem dL_law_177 : decode cL_law 177 = .ok (.ifCond .eq 110, 3) := by decide +kernel
theorem dL_law_180 : decode cL_law 180 = .ok (.aload_n 2, 1) := by decide +kernel
theorem dL_law_181 : decode cL_law 181 = .ok (.iload 7, 2) := by decide +kernel
theorem dL_law_183 : decode cL_law 183 = .ok (.invokestatic 217, 3) := by decide +kernel
theorem dL_law_186 : decode cL_law 186 = .ok (.iload 8, 2) := by decide +kernel
theorem dL_law_188 : decode cL_law 188 = .ok (.if_icmp .ne 99, 3) := by decide +kernel
theorem dL_law_191 : decode cL_law 191 = .ok (.aload_n 2, 1) := by decide +kernel
theorem dL_law_192 : decode cL_law 192 = .ok (.iload 7, 2) := by decide +kernel
theorem dL_law_194 : decode cL_law 194 = .ok (.sipush 1000, 3) := by decide +kernel
theorem dL_law_197 : decode cL_law 197 = .ok (.irem, 1) := by decide +kernel
theorem dL_law_198 : decode cL_law 198 = .ok (.invokestatic 221, 3) := by decide +kernel
theorem dL_law_201 : decode cL_law 201 = .ok (.ifCond .eq 86, 3) := by decide +kernel
theorem dL_law_204 : decode cL_law 204 = .ok (.aload_n 1, 1) := by decide +kernel
theorem dL_law_205 : decode cL_law 205 = .ok (.aload_n 2, 1) := by decide +kernel
theorem dL_law_206 : decode cL_law 206 = .ok (.iload 7, 2) := by decide +kernel
theorem dL_law_208 : decode cL_law 208 = .ok (.sipush 5000, 3) := by decide +kernel
theorem dL_law_211 : decode cL_law 211 = .ok (.irem, 1) := by decide +kernel
theorem dL_law_212 : decode cL_law 212 = .ok (.invokestatic 225, 3) := by decide +kernel
theorem dL_law_215 : decode cL_law 215 = .ok (.ifCond .eq 72, 3) := by decide +kernel
theorem dL_law_218 : decode cL_law 218 = .ok (.iload 6, 2) := by decide +kernel
theorem dL_law_220 : decode cL_law 220 = .ok (.iconst 2, 1) := by decide +kernel
theorem dL_law_221 : decode cL_law 221 = .ok (.irem, 1) := by decide +kernel
theorem dL_law_222 : decode cL_law 222 = .ok (.ifCond .ne 17, 3) := by decide +kernel
theorem dL_law_225 : decode cL_law 225 = .ok (.aload_n 1, 1) := by decide +kernel
theorem dL_law_226 : decode cL_law 226 = .ok (.iload 7, 2) := by decide +kernel
theorem dL_law_228 : decode cL_law 228 = .ok (.iconst 3, 1) := by decide +kernel
theorem dL_law_229 : decode cL_law 229 = .ok (.idiv, 1) := by decide +kernel
theorem dL_law_230 : decode cL_law 230 = .ok (.invokestatic 229, 3) := by decide +kernel
theorem dL_law_233 : decode cL_law 233 = .ok (.ifCond .eq 54, 3) := by decide +kernel
theorem dL_law_236 : decode cL_law 236 = .ok (.goto 14, 3) := by decide +kernel
theorem dL_law_239 : decode cL_law 239 = .ok (.aload_n 2, 1) := by decide +kernel
theorem dL_law_240 : decode cL_law 240 = .ok (.iload 7, 2) := by decide +kernel
theorem dL_law_242 : decode cL_law 242 = .ok (.iconst 3, 1) := by decide +kernel
theorem dL_law_243 : decode cL_law 243 = .ok (.idiv, 1) := by decide +kernel
theorem dL_law_244 : decode cL_law 244 = .ok (.invokestatic 229, 3) := by decide +kernel
theorem dL_law_247 : decode cL_law 247 = .ok (.ifCond .eq 40, 3) := by decide +kernel
theorem dL_law_250 : decode cL_law 250 = .ok (.aload_n 1, 1) := by decide +kernel
theorem dL_law_251 : decode cL_law 251 = .ok (.aload_n 2, 1) := by decide +kernel
theorem dL_law_252 : decode cL_law 252 = .ok (.iload 7, 2) := by decide +kernel
theorem dL_law_254 : decode cL_law 254 = .ok (.bipush 7, 2) := by decide +kernel
theorem dL_law_256 : decode cL_law 256 = .ok (.idiv, 1) := by decide +kernel
theorem dL_law_257 : decode cL_law 257 = .ok (.invokestatic 232, 3) := by decide +kernel
theorem dL_law_260 : decode cL_law 260 = .ok (.ifCond .eq 27, 3) := by decide +kernel
theorem dL_law_263 : decode cL_law 263 = .ok (.iload 6, 2) := by decide +kernel
theorem dL_law_265 : decode cL_law 265 = .ok (.iconst 3, 1) := by decide +kernel
theorem dL_law_266 : decode cL_law 266 = .ok (.irem, 1) := by decide +kernel
theorem dL_law_267 : decode cL_law 267 = .ok (.ifCond .gt 16, 3) := by decide +kernel
theorem dL_law_270 : decode cL_law 270 = .ok (.aload_n 1, 1) := by decide +kernel
theorem dL_law_271 : decode cL_law 271 = .ok (.aload_n 2, 1) := by decide +kernel
theorem dL_law_272 : decode cL_law 272 = .ok (.iload 7, 2) := by decide +kernel
theorem dL_law_274 : decode cL_law 274 = .ok (.bipush 11, 2) := by decide +kernel
theorem dL_law_276 : decode cL_law 276 = .ok (.idiv, 1) := by decide +kernel
theorem dL_law_277 : decode cL_law 277 = .ok (.invokestatic 235, 3) := by decide +kernel
theorem dL_law_280 : decode cL_law 280 = .ok (.ifCond .eq 7, 3) := by decide +kernel
theorem dL_law_283 : decode cL_law 283 = .ok (.iconst 1, 1) := by decide +kernel
theorem dL_law_284 : decode cL_law 284 = .ok (.goto 4, 3) := by decide +kernel
theorem dL_law_287 : decode cL_law 287 = .ok (.iconst 0, 1) := by decide +kernel
theorem dL_law_288 : decode cL_law 288 = .ok (.istore 5, 2) := by decide +kernel
theorem dL_law_290 : decode cL_law 290 = .ok (.iinc 6 1, 3) := by decide +kernel
theorem dL_law_293 : decode cL_law 293 = .ok (.goto (-154), 3) := by decide +kernel
theorem dL_law_296 : decode cL_law 296 = .ok (.iload 5, 2) := by decide +kernel
theorem dL_law_298 : decode cL_law 298 = .ok (.ireturn, 1) := by decide +kernel
theorem dL_waits_0 : decode cL_waits 0 = .ok (.iconst 1, 1) := by decide +kernel
theorem dL_waits_1 : decode cL_waits 1 = .ok (.istore_n 3, 1) := by decide +kernel
theorem dL_waits_2 : decode cL_waits 2 = .ok (.iload_n 2, 1) := by decide +kernel
theorem dL_waits_3 : decode cL_waits 3 = .ok (.istore 4, 2) := by decide +kernel
theorem dL_waits_5 : decode cL_waits 5 = .ok (.iload 4, 2) := by decide +kernel
theorem dL_waits_7 : decode cL_waits 7 = .ok (.ifCond .le 67, 3) := by decide +kernel
theorem dL_waits_10 : decode cL_waits 10 = .ok (.iload_n 3, 1) := by decide +kernel
theorem dL_waits_11 : decode cL_waits 11 = .ok (.ifCond .eq 63, 3) := by decide +kernel
theorem dL_waits_14 : decode cL_waits 14 = .ok (.iload 4, 2) := by decide +kernel
theorem dL_waits_16 : decode cL_waits 16 = .ok (.bipush 60, 2) := by decide +kernel
theorem dL_waits_18 : decode cL_waits 18 = .ok (.if_icmp .le 8, 3) := by decide +kernel
theorem dL_waits_21 : decode cL_waits 21 = .ok (.bipush 60, 2) := by decide +kernel
theorem dL_waits_23 : decode cL_waits 23 = .ok (.goto 5, 3) := by decide +kernel
theorem dL_waits_26 : decode cL_waits 26 = .ok (.iload 4, 2) := by decide +kernel
theorem dL_waits_28 : decode cL_waits 28 = .ok (.istore 5, 2) := by decide +kernel
theorem dL_waits_30 : decode cL_waits 30 = .ok (.aload_n 0, 1) := by decide +kernel
theorem dL_waits_31 : decode cL_waits 31 = .ok (.bipush 15, 2) := by decide +kernel
theorem dL_waits_33 : decode cL_waits 33 = .ok (.iload 5, 2) := by decide +kernel
theorem dL_waits_35 : decode cL_waits 35 = .ok (.iconst 0, 1) := by decide +kernel
theorem dL_waits_36 : decode cL_waits 36 = .ok (.iconst 0, 1) := by decide +kernel
theorem dL_waits_37 : decode cL_waits 37 = .ok (.invokestatic 190, 3) := by decide +kernel
theorem dL_waits_40 : decode cL_waits 40 = .ok (.istore 6, 2) := by decide +kernel
theorem dL_waits_42 : decode cL_waits 42 = .ok (.iload 6, 2) := by decide +kernel
theorem dL_waits_44 : decode cL_waits 44 = .ok (.ifCond .lt 22, 3) := by decide +kernel
theorem dL_waits_47 : decode cL_waits 47 = .ok (.aload_n 1, 1) := by decide +kernel
theorem dL_waits_48 : decode cL_waits 48 = .ok (.bipush 15, 2) := by decide +kernel
theorem dL_waits_50 : decode cL_waits 50 = .ok (.iload 5, 2) := by decide +kernel
theorem dL_waits_52 : decode cL_waits 52 = .ok (.iconst 0, 1) := by decide +kernel
theorem dL_waits_53 : decode cL_waits 53 = .ok (.iconst 0, 1) := by decide +kernel
theorem dL_waits_54 : decode cL_waits 54 = .ok (.invokestatic 190, 3) := by decide +kernel
theorem dL_waits_57 : decode cL_waits 57 = .ok (.iload 6, 2) := by decide +kernel
theorem dL_waits_59 : decode cL_waits 59 = .ok (.if_icmp .ne 7, 3) := by decide +kernel
theorem dL_waits_62 : decode cL_waits 62 = .ok (.iconst 1, 1) := by decide +kernel
theorem dL_waits_63 : decode cL_waits 63 = .ok (.goto 4, 3) := by decide +kernel
theorem dL_waits_66 : decode cL_waits 66 = .ok (.iconst 0, 1) := by decide +kernel
theorem dL_waits_67 : decode cL_waits 67 = .ok (.istore_n 3, 1) := by decide +kernel
theorem dL_waits_68 : decode cL_waits 68 = .ok (.iinc 4 (-60), 3) := by decide +kernel
theorem dL_waits_71 : decode cL_waits 71 = .ok (.goto (-66), 3) := by decide +kernel
theorem dL_waits_74 : decode cL_waits 74 = .ok (.iload_n 3, 1) := by decide +kernel
theorem dL_waits_75 : decode cL_waits 75 = .ok (.ireturn, 1) := by decide +kernel
theorem dL_undoes_0 : decode cL_undoes 0 = .ok (.iconst 1, 1) := by decide +kernel
theorem dL_undoes_1 : decode cL_undoes 1 = .ok (.istore_n 3, 1) := by decide +kernel
theorem dL_undoes_2 : decode cL_undoes 2 = .ok (.iload_n 2, 1) := by decide +kernel
theorem dL_undoes_3 : decode cL_undoes 3 = .ok (.istore 4, 2) := by decide +kernel
theorem dL_undoes_5 : decode cL_undoes 5 = .ok (.iload 4, 2) := by decide +kernel
theorem dL_undoes_7 : decode cL_undoes 7 = .ok (.ifCond .le 49, 3) := by decide +kernel
theorem dL_undoes_10 : decode cL_undoes 10 = .ok (.iload_n 3, 1) := by decide +kernel
theorem dL_undoes_11 : decode cL_undoes 11 = .ok (.ifCond .eq 45, 3) := by decide +kernel
theorem dL_undoes_14 : decode cL_undoes 14 = .ok (.aload_n 0, 1) := by decide +kernel
theorem dL_undoes_15 : decode cL_undoes 15 = .ok (.bipush 16, 2) := by decide +kernel
theorem dL_undoes_17 : decode cL_undoes 17 = .ok (.iconst 0, 1) := by decide +kernel
theorem dL_undoes_18 : decode cL_undoes 18 = .ok (.iconst 0, 1) := by decide +kernel
theorem dL_undoes_19 : decode cL_undoes 19 = .ok (.iconst 0, 1) := by decide +kernel
theorem dL_undoes_20 : decode cL_undoes 20 = .ok (.invokestatic 190, 3) := by decide +kernel
theorem dL_undoes_23 : decode cL_undoes 23 = .ok (.invokestatic 238, 3) := by decide +kernel
theorem dL_undoes_26 : decode cL_undoes 26 = .ok (.ifCond .ne 22, 3) := by decide +kernel
theorem dL_undoes_29 : decode cL_undoes 29 = .ok (.aload_n 1, 1) := by decide +kernel
theorem dL_undoes_30 : decode cL_undoes 30 = .ok (.bipush 16, 2) := by decide +kernel
theorem dL_undoes_32 : decode cL_undoes 32 = .ok (.iconst 0, 1) := by decide +kernel
theorem dL_undoes_33 : decode cL_undoes 33 = .ok (.iconst 0, 1) := by decide +kernel
theorem dL_undoes_34 : decode cL_undoes 34 = .ok (.iconst 0, 1) := by decide +kernel
theorem dL_undoes_35 : decode cL_undoes 35 = .ok (.invokestatic 190, 3) := by decide +kernel
theorem dL_undoes_38 : decode cL_undoes 38 = .ok (.invokestatic 238, 3) := by decide +kernel
theorem dL_undoes_41 : decode cL_undoes 41 = .ok (.ifCond .ne 7, 3) := by decide +kernel
theorem dL_undoes_44 : decode cL_undoes 44 = .ok (.iconst 1, 1) := by decide +kernel
theorem dL_undoes_45 : decode cL_undoes 45 = .ok (.goto 4, 3) := by decide +kernel
theorem dL_undoes_48 : decode cL_undoes 48 = .ok (.iconst 0, 1) := by decide +kernel
theorem dL_undoes_49 : decode cL_undoes 49 = .ok (.istore_n 3, 1) := by decide +kernel
theorem dL_undoes_50 : decode cL_undoes 50 = .ok (.iinc 4 (-60), 3) := by decide +kernel
theorem dL_undoes_53 : decode cL_undoes 53 = .ok (.goto (-48), 3) := by decide +kernel
theorem dL_undoes_56 : decode cL_undoes 56 = .ok (.iload_n 3, 1) := by decide +kernel
theorem dL_undoes_57 : decode cL_undoes 57 = .ok (.ireturn, 1) := by decide +kernel
theorem dL_goesOn_0 : decode cL_goesOn 0 = .ok (.iload_n 2, 1) := by decide +kernel
theorem dL_goesOn_1 : decode cL_goesOn 1 = .ok (.aload_n 0, 1) := by decide +kernel
theorem dL_goesOn_2 : decode cL_goesOn 2 = .ok (.iconst 2, 1) := by decide +kernel
theorem dL_goesOn_3 : decode cL_goesOn 3 = .ok (.iconst 0, 1) := by decide +kernel
theorem dL_goesOn_4 : decode cL_goesOn 4 = .ok (.iconst 0, 1) := by decide +kernel
theorem dL_goesOn_5 : decode cL_goesOn 5 = .ok (.iconst 0, 1) := by decide +kernel
theorem dL_goesOn_6 : decode cL_goesOn 6 = .ok (.invokestatic 190, 3) := by decide +kernel
theorem dL_goesOn_9 : decode cL_goesOn 9 = .ok (.irem, 1) := by decide +kernel
theorem dL_goesOn_10 : decode cL_goesOn 10 = .ok (.istore_n 3, 1) := by decide +kernel
theorem dL_goesOn_11 : decode cL_goesOn 11 = .ok (.aload_n 0, 1) := by decide +kernel
theorem dL_goesOn_12 : decode cL_goesOn 12 = .ok (.iconst 3, 1) := by decide +kernel
theorem dL_goesOn_13 : decode cL_goesOn 13 = .ok (.iload_n 3, 1) := by decide +kernel
theorem dL_goesOn_14 : decode cL_goesOn 14 = .ok (.bipush 9, 2) := by decide +kernel
theorem dL_goesOn_16 : decode cL_goesOn 16 = .ok (.iconst 0, 1) := by decide +kernel
theorem dL_goesOn_17 : decode cL_goesOn 17 = .ok (.invokestatic 190, 3) := by decide +kernel
theorem dL_goesOn_20 : decode cL_goesOn 20 = .ok (.istore 4, 2) := by decide +kernel
theorem dL_goesOn_22 : decode cL_goesOn 22 = .ok (.aload_n 0, 1) := by decide +kernel
theorem dL_goesOn_23 : decode cL_goesOn 23 = .ok (.iconst 2, 1) := by decide +kernel
theorem dL_goesOn_24 : decode cL_goesOn 24 = .ok (.bipush 12, 2) := by decide +kernel
theorem dL_goesOn_26 : decode cL_goesOn 26 = .ok (.iconst 0, 1) := by decide +kernel
theorem dL_goesOn_27 : decode cL_goesOn 27 = .ok (.iconst 0, 1) := by decide +kernel
theorem dL_goesOn_28 : decode cL_goesOn 28 = .ok (.invokestatic 190, 3) := by decide +kernel
theorem dL_goesOn_31 : decode cL_goesOn 31 = .ok (.istore 5, 2) := by decide +kernel
theorem dL_goesOn_33 : decode cL_goesOn 33 = .ok (.aload_n 0, 1) := by decide +kernel
theorem dL_goesOn_34 : decode cL_goesOn 34 = .ok (.bipush 17, 2) := by decide +kernel
theorem dL_goesOn_36 : decode cL_goesOn 36 = .ok (.iload_n 3, 1) := by decide +kernel
theorem dL_goesOn_37 : decode cL_goesOn 37 = .ok (.iconst 0, 1) := by decide +kernel
theorem dL_goesOn_38 : decode cL_goesOn 38 = .ok (.iconst 0, 1) := by decide +kernel
theorem dL_goesOn_39 : decode cL_goesOn 39 = .ok (.invokestatic 190, 3) := by decide +kernel
theorem dL_goesOn_42 : decode cL_goesOn 42 = .ok (.istore 6, 2) := by decide +kernel
theorem dL_goesOn_44 : decode cL_goesOn 44 = .ok (.aload_n 0, 1) := by decide +kernel
theorem dL_goesOn_45 : decode cL_goesOn 45 = .ok (.iconst 3, 1) := by decide +kernel
theorem dL_goesOn_46 : decode cL_goesOn 46 = .ok (.iload_n 3, 1) := by decide +kernel
theorem dL_goesOn_47 : decode cL_goesOn 47 = .ok (.iconst 3, 1) := by decide +kernel
theorem dL_goesOn_48 : decode cL_goesOn 48 = .ok (.iconst 0, 1) := by decide +kernel
theorem dL_goesOn_49 : decode cL_goesOn 49 = .ok (.invokestatic 190, 3) := by decide +kernel
theorem dL_goesOn_52 : decode cL_goesOn 52 = .ok (.istore 7, 2) := by decide +kernel
theorem dL_goesOn_54 : decode cL_goesOn 54 = .ok (.aload_n 0, 1) := by decide +kernel
theorem dL_goesOn_55 : decode cL_goesOn 55 = .ok (.iconst 3, 1) := by decide +kernel
theorem dL_goesOn_56 : decode cL_goesOn 56 = .ok (.iload_n 3, 1) := by decide +kernel
theorem dL_goesOn_57 : decode cL_goesOn 57 = .ok (.iconst 2, 1) := by decide +kernel
theorem dL_goesOn_58 : decode cL_goesOn 58 = .ok (.iconst 0, 1) := by decide +kernel
theorem dL_goesOn_59 : decode cL_goesOn 59 = .ok (.invokestatic 190, 3) := by decide +kernel
theorem dL_goesOn_62 : decode cL_goesOn 62 = .ok (.istore 8, 2) := by decide +kernel
theorem dL_goesOn_64 : decode cL_goesOn 64 = .ok (.aload_n 0, 1) := by decide +kernel
theorem dL_goesOn_65 : decode cL_goesOn 65 = .ok (.iconst 2, 1) := by decide +kernel
theorem dL_goesOn_66 : decode cL_goesOn 66 = .ok (.bipush 8, 2) := by decide +kernel
theorem dL_goesOn_68 : decode cL_goesOn 68 = .ok (.iconst 0, 1) := by decide +kernel
theorem dL_goesOn_69 : decode cL_goesOn 69 = .ok (.iconst 0, 1) := by decide +kernel
theorem dL_goesOn_70 : decode cL_goesOn 70 = .ok (.invokestatic 190, 3) := by decide +kernel
theorem dL_goesOn_73 : decode cL_goesOn 73 = .ok (.istore 9, 2) := by decide +kernel
theorem dL_goesOn_75 : decode cL_goesOn 75 = .ok (.aload_n 0, 1) := by decide +kernel
theorem dL_goesOn_76 : decode cL_goesOn 76 = .ok (.iconst 2, 1) := by decide +kernel
theorem dL_goesOn_77 : decode cL_goesOn 77 = .ok (.bipush 9, 2) := by decide +kernel
theorem dL_goesOn_79 : decode cL_goesOn 79 = .ok (.iconst 0, 1) := by decide +kernel
theorem dL_goesOn_80 : decode cL_goesOn 80 = .ok (.iconst 0, 1) := by decide +kernel
theorem dL_goesOn_81 : decode cL_goesOn 81 = .ok (.invokestatic 190, 3) := by decide +kernel
theorem dL_goesOn_84 : decode cL_goesOn 84 = .ok (.istore 10, 2) := by decide +kernel
theorem dL_goesOn_86 : decode cL_goesOn 86 = .ok (.aload_n 0, 1) := by decide +kernel
theorem dL_goesOn_87 : decode cL_goesOn 87 = .ok (.iconst 2, 1) := by decide +kernel
theorem dL_goesOn_88 : decode cL_goesOn 88 = .ok (.bipush 7, 2) := by decide +kernel
theorem dL_goesOn_90 : decode cL_goesOn 90 = .ok (.iconst 0, 1) := by decide +kernel
theorem dL_goesOn_91 : decode cL_goesOn 91 = .ok (.iconst 0, 1) := by decide +kernel
theorem dL_goesOn_92 : decode cL_goesOn 92 = .ok (.invokestatic 190, 3) := by decide +kernel
theorem dL_goesOn_95 : decode cL_goesOn 95 = .ok (.istore 11, 2) := by decide +kernel
theorem dL_goesOn_97 : decode cL_goesOn 97 = .ok (.aload_n 0, 1) := by decide +kernel
theorem dL_goesOn_98 : decode cL_goesOn 98 = .ok (.bipush 8, 2) := by decide +kernel
theorem dL_goesOn_100 : decode cL_goesOn 100 = .ok (.iconst 4, 1) := by decide +kernel
theorem dL_goesOn_101 : decode cL_goesOn 101 = .ok (.iconst 0, 1) := by decide +kernel
theorem dL_goesOn_102 : decode cL_goesOn 102 = .ok (.iconst 0, 1) := by decide +kernel
theorem dL_goesOn_103 : decode cL_goesOn 103 = .ok (.invokestatic 190, 3) := by decide +kernel
theorem dL_goesOn_106 : decode cL_goesOn 106 = .ok (.istore 12, 2) := by decide +kernel
theorem dL_goesOn_108 : decode cL_goesOn 108 = .ok (.aload_n 0, 1) := by decide +kernel
theorem dL_goesOn_109 : decode cL_goesOn 109 = .ok (.bipush 18, 2) := by decide +kernel
theorem dL_goesOn_111 : decode cL_goesOn 111 = .ok (.iload_n 3, 1) := by decide +kernel
theorem dL_goesOn_112 : decode cL_goesOn 112 = .ok (.iconst 1, 1) := by decide +kernel
theorem dL_goesOn_113 : decode cL_goesOn 113 = .ok (.iconst 0, 1) := by decide +kernel
theorem dL_goesOn_114 : decode cL_goesOn 114 = .ok (.invokestatic 190, 3) := by decide +kernel
theorem dL_goesOn_117 : decode cL_goesOn 117 = .ok (.istore 13, 2) := by decide +kernel
theorem dL_goesOn_119 : decode cL_goesOn 119 = .ok (.aload_n 0, 1) := by decide +kernel
theorem dL_goesOn_120 : decode cL_goesOn 120 = .ok (.aload_n 1, 1) := by decide +kernel
theorem dL_goesOn_121 : decode cL_goesOn 121 = .ok (.iconst 1, 1) := by decide +kernel
theorem dL_goesOn_122 : decode cL_goesOn 122 = .ok (.invokestatic 242, 3) := by decide +kernel
theorem dL_goesOn_125 : decode cL_goesOn 125 = .ok (.istore 14, 2) := by decide +kernel
theorem dL_goesOn_127 : decode cL_goesOn 127 = .ok (.aload_n 0, 1) := by decide +kernel
theorem dL_goesOn_128 : decode cL_goesOn 128 = .ok (.iconst 3, 1) := by decide +kernel
theorem dL_goesOn_129 : decode cL_goesOn 129 = .ok (.iload_n 3, 1) := by decide +kernel
theorem dL_goesOn_130 : decode cL_goesOn 130 = .ok (.iconst 3, 1) := by decide +kernel
theorem dL_goesOn_131 : decode cL_goesOn 131 = .ok (.iconst 0, 1) := by decide +kernel
theorem dL_goesOn_132 : decode cL_goesOn 132 = .ok (.invokestatic 190, 3) := by decide +kernel
theorem dL_goesOn_135 : decode cL_goesOn 135 = .ok (.iload 7, 2) := by decide +kernel
theorem dL_goesOn_137 : decode cL_goesOn 137 = .ok (.isub, 1) := by decide +kernel
theorem dL_goesOn_138 : decode cL_goesOn 138 = .ok (.istore 15, 2) := by decide +kernel
theorem dL_goesOn_140 : decode cL_goesOn 140 = .ok (.iload 14, 2) := by decide +kernel
theorem dL_goesOn_142 : decode cL_goesOn 142 = .ok (.ifCond .eq 152, 3) := by decide +kernel
theorem dL_goesOn_145 : decode cL_goesOn 145 = .ok (.iload 6, 2) := by decide +kernel
theorem dL_goesOn_147 : decode cL_goesOn 147 = .ok (.ifCond .ne 18, 3) := by decide +kernel
theorem dL_goesOn_150 : decode cL_goesOn 150 = .ok (.iload 15, 2) := by decide +kernel
theorem dL_goesOn_152 : decode cL_goesOn 152 = .ok (.iload 4, 2) := by decide +kernel
theorem dL_goesOn_154 : decode cL_goesOn 154 = .ok (.if_icmp .ne 140, 3) := by decide +kernel
theorem dL_goesOn_157 : decode cL_goesOn 157 = .ok (.iload 4, 2) := by decide +kernel
theorem dL_goesOn_159 : decode cL_goesOn 159 = .ok (.ifCond .le 135, 3) := by decide +kernel
theorem dL_goesOn_162 : decode cL_goesOn 162 = .ok (.goto 29, 3) := by decide +kernel
theorem dL_goesOn_165 : decode cL_goesOn 165 = .ok (.iload 6, 2) := by decide +kernel
theorem dL_goesOn_167 : decode cL_goesOn 167 = .ok (.iconst 5, 1) := by decide +kernel
theorem dL_goesOn_168 : decode cL_goesOn 168 = .ok (.if_icmp .ne 18, 3) := by decide +kernel
theorem dL_goesOn_171 : decode cL_goesOn 171 = .ok (.iload 15, 2) := by decide +kernel
theorem dL_goesOn_173 : decode cL_goesOn 173 = .ok (.ifCond .le 121, 3) := by decide +kernel
theorem dL_goesOn_176 : decode cL_goesOn 176 = .ok (.iload 15, 2) := by decide +kernel
theorem dL_goesOn_178 : decode cL_goesOn 178 = .ok (.iload 4, 2) := by decide +kernel
theorem dL_goesOn_180 : decode cL_goesOn 180 = .ok (.if_icmp .ge 114, 3) := by decide +kernel
theorem dL_goesOn_183 : decode cL_goesOn 183 = .ok (.goto 8, 3) := by decide +kernel
theorem dL_goesOn_186 : decode cL_goesOn 186 = .ok (.iload 15, 2) := by decide +kernel
theorem dL_goesOn_188 : decode cL_goesOn 188 = .ok (.ifCond .ne 106, 3) := by decide +kernel
theorem dL_goesOn_191 : decode cL_goesOn 191 = .ok (.aload_n 0, 1) := by decide +kernel
theorem dL_goesOn_192 : decode cL_goesOn 192 = .ok (.iconst 3, 1) := by decide +kernel
theorem dL_goesOn_193 : decode cL_goesOn 193 = .ok (.iload_n 3, 1) := by decide +kernel
theorem dL_goesOn_194 : decode cL_goesOn 194 = .ok (.iconst 2, 1) := by decide +kernel
theorem dL_goesOn_195 : decode cL_goesOn 195 = .ok (.iconst 0, 1) := by decide +kernel
theorem dL_goesOn_196 : decode cL_goesOn 196 = .ok (.invokestatic 190, 3) := by decide +kernel
theorem dL_goesOn_199 : decode cL_goesOn 199 = .ok (.iload 13, 2) := by decide +kernel
theorem dL_goesOn_201 : decode cL_goesOn 201 = .ok (.if_icmp .ne 93, 3) := by decide +kernel
theorem dL_goesOn_204 : decode cL_goesOn 204 = .ok (.aload_n 0, 1) := by decide +kernel
theorem dL_goesOn_205 : decode cL_goesOn 205 = .ok (.iconst 2, 1) := by decide +kernel
theorem dL_goesOn_206 : decode cL_goesOn 206 = .ok (.bipush 8, 2) := by decide +kernel
theorem dL_goesOn_208 : decode cL_goesOn 208 = .ok (.iconst 0, 1) := by decide +kernel
theorem dL_goesOn_209 : decode cL_goesOn 209 = .ok (.iconst 0, 1) := by decide +kernel
theorem dL_goesOn_210 : decode cL_goesOn 210 = .ok (.invokestatic 190, 3) := by decide +kernel
theorem dL_goesOn_213 : decode cL_goesOn 213 = .ok (.iload 9, 2) := by decide +kernel
theorem dL_goesOn_215 : decode cL_goesOn 215 = .ok (.iload 12, 2) := by decide +kernel
theorem dL_goesOn_217 : decode cL_goesOn 217 = .ok (.iload 5, 2) := by decide +kernel
theorem dL_goesOn_219 : decode cL_goesOn 219 = .ok (.imul, 1) := by decide +kernel
theorem dL_goesOn_220 : decode cL_goesOn 220 = .ok (.iadd, 1) := by decide +kernel
theorem dL_goesOn_221 : decode cL_goesOn 221 = .ok (.if_icmp .ne 73, 3) := by decide +kernel
theorem dL_goesOn_224 : decode cL_goesOn 224 = .ok (.aload_n 0, 1) := by decide +kernel
theorem dL_goesOn_225 : decode cL_goesOn 225 = .ok (.iconst 2, 1) := by decide +kernel
theorem dL_goesOn_226 : decode cL_goesOn 226 = .ok (.bipush 9, 2) := by decide +kernel
theorem dL_goesOn_228 : decode cL_goesOn 228 = .ok (.iconst 0, 1) := by decide +kernel
theorem dL_goesOn_229 : decode cL_goesOn 229 = .ok (.iconst 0, 1) := by decide +kernel
theorem dL_goesOn_230 : decode cL_goesOn 230 = .ok (.invokestatic 190, 3) := by decide +kernel
theorem dL_goesOn_233 : decode cL_goesOn 233 = .ok (.iload 10, 2) := by decide +kernel
theorem dL_goesOn_235 : decode cL_goesOn 235 = .ok (.iload 12, 2) := by decide +kernel
theorem dL_goesOn_237 : decode cL_goesOn 237 = .ok (.aload_n 0, 1) := by decide +kernel
theorem dL_goesOn_238 : decode cL_goesOn 238 = .ok (.iconst 2, 1) := by decide +kernel
theorem dL_goesOn_239 : decode cL_goesOn 239 = .ok (.bipush 7, 2) := by decide +kernel
theorem dL_goesOn_241 : decode cL_goesOn 241 = .ok (.iconst 0, 1) := by decide +kernel
theorem dL_goesOn_242 : decode cL_goesOn 242 = .ok (.iconst 0, 1) := by decide +kernel
theorem dL_goesOn_243 : decode cL_goesOn 243 = .ok (.invokestatic 190, 3) := by decide +kernel
theorem dL_goesOn_246 : decode cL_goesOn 246 = .ok (.iload 11, 2) := by decide +kernel
theorem dL_goesOn_248 : decode cL_goesOn 248 = .ok (.isub, 1) := by decide +kernel
theorem dL_goesOn_249 : decode cL_goesOn 249 = .ok (.imul, 1) := by decide +kernel
theorem dL_goesOn_250 : decode cL_goesOn 250 = .ok (.iadd, 1) := by decide +kernel
theorem dL_goesOn_251 : decode cL_goesOn 251 = .ok (.if_icmp .ne 43, 3) := by decide +kernel
theorem dL_goesOn_254 : decode cL_goesOn 254 = .ok (.iload 13, 2) := by decide +kernel
theorem dL_goesOn_256 : decode cL_goesOn 256 = .ok (.aload_n 0, 1) := by decide +kernel
theorem dL_goesOn_257 : decode cL_goesOn 257 = .ok (.bipush 8, 2) := by decide +kernel
theorem dL_goesOn_259 : decode cL_goesOn 259 = .ok (.iconst 3, 1) := by decide +kernel
theorem dL_goesOn_260 : decode cL_goesOn 260 = .ok (.iconst 0, 1) := by decide +kernel
theorem dL_goesOn_261 : decode cL_goesOn 261 = .ok (.iconst 0, 1) := by decide +kernel
theorem dL_goesOn_262 : decode cL_goesOn 262 = .ok (.invokestatic 190, 3) := by decide +kernel
theorem dL_goesOn_265 : decode cL_goesOn 265 = .ok (.if_icmp .gt 29, 3) := by decide +kernel
theorem dL_goesOn_268 : decode cL_goesOn 268 = .ok (.aload_n 0, 1) := by decide +kernel
theorem dL_goesOn_269 : decode cL_goesOn 269 = .ok (.aload_n 1, 1) := by decide +kernel
theorem dL_goesOn_270 : decode cL_goesOn 270 = .ok (.iconst 1, 1) := by decide +kernel
theorem dL_goesOn_271 : decode cL_goesOn 271 = .ok (.invokestatic 245, 3) := by decide +kernel
theorem dL_goesOn_274 : decode cL_goesOn 274 = .ok (.ifCond .eq 20, 3) := by decide +kernel
theorem dL_goesOn_277 : decode cL_goesOn 277 = .ok (.aload_n 0, 1) := by decide +kernel
theorem dL_goesOn_278 : decode cL_goesOn 278 = .ok (.iconst 3, 1) := by decide +kernel
theorem dL_goesOn_279 : decode cL_goesOn 279 = .ok (.iload_n 3, 1) := by decide +kernel
theorem dL_goesOn_280 : decode cL_goesOn 280 = .ok (.iconst 2, 1) := by decide +kernel
theorem dL_goesOn_281 : decode cL_goesOn 281 = .ok (.iconst 0, 1) := by decide +kernel
theorem dL_goesOn_282 : decode cL_goesOn 282 = .ok (.invokestatic 190, 3) := by decide +kernel
theorem dL_goesOn_285 : decode cL_goesOn 285 = .ok (.iload 8, 2) := by decide +kernel
theorem dL_goesOn_287 : decode cL_goesOn 287 = .ok (.if_icmp .ne 7, 3) := by decide +kernel
theorem dL_goesOn_290 : decode cL_goesOn 290 = .ok (.iconst 1, 1) := by decide +kernel
theorem dL_goesOn_291 : decode cL_goesOn 291 = .ok (.goto 4, 3) := by decide +kernel
theorem dL_goesOn_294 : decode cL_goesOn 294 = .ok (.iconst 0, 1) := by decide +kernel
theorem dL_goesOn_295 : decode cL_goesOn 295 = .ok (.istore 14, 2) := by decide +kernel
theorem dL_goesOn_297 : decode cL_goesOn 297 = .ok (.aload_n 0, 1) := by decide +kernel
theorem dL_goesOn_298 : decode cL_goesOn 298 = .ok (.bipush 19, 2) := by decide +kernel
theorem dL_goesOn_300 : decode cL_goesOn 300 = .ok (.iload_n 3, 1) := by decide +kernel
theorem dL_goesOn_301 : decode cL_goesOn 301 = .ok (.iconst 0, 1) := by decide +kernel
theorem dL_goesOn_302 : decode cL_goesOn 302 = .ok (.iconst 0, 1) := by decide +kernel
theorem dL_goesOn_303 : decode cL_goesOn 303 = .ok (.invokestatic 190, 3) := by decide +kernel
theorem dL_goesOn_306 : decode cL_goesOn 306 = .ok (.istore 16, 2) := by decide +kernel
theorem dL_goesOn_308 : decode cL_goesOn 308 = .ok (.iload 16, 2) := by decide +kernel
theorem dL_goesOn_310 : decode cL_goesOn 310 = .ok (.iconst (-1), 1) := by decide +kernel
theorem dL_goesOn_311 : decode cL_goesOn 311 = .ok (.if_icmp .ne 8, 3) := by decide +kernel
theorem dL_goesOn_314 : decode cL_goesOn 314 = .ok (.bipush 90, 2) := by decide +kernel
theorem dL_goesOn_316 : decode cL_goesOn 316 = .ok (.goto 5, 3) := by decide +kernel
theorem dL_goesOn_319 : decode cL_goesOn 319 = .ok (.iload 16, 2) := by decide +kernel
theorem dL_goesOn_321 : decode cL_goesOn 321 = .ok (.istore 17, 2) := by decide +kernel
theorem dL_goesOn_323 : decode cL_goesOn 323 = .ok (.iload 14, 2) := by decide +kernel
theorem dL_goesOn_325 : decode cL_goesOn 325 = .ok (.ifCond .eq 57, 3) := by decide +kernel
theorem dL_goesOn_328 : decode cL_goesOn 328 = .ok (.aload_n 0, 1) := by decide +kernel
theorem dL_goesOn_329 : decode cL_goesOn 329 = .ok (.aload_n 1, 1) := by decide +kernel
theorem dL_goesOn_330 : decode cL_goesOn 330 = .ok (.iload 17, 2) := by decide +kernel
theorem dL_goesOn_332 : decode cL_goesOn 332 = .ok (.invokestatic 242, 3) := by decide +kernel
theorem dL_goesOn_335 : decode cL_goesOn 335 = .ok (.ifCond .eq 47, 3) := by decide +kernel
theorem dL_goesOn_338 : decode cL_goesOn 338 = .ok (.aload_n 0, 1) := by decide +kernel
theorem dL_goesOn_339 : decode cL_goesOn 339 = .ok (.iconst 3, 1) := by decide +kernel
theorem dL_goesOn_340 : decode cL_goesOn 340 = .ok (.iload_n 3, 1) := by decide +kernel
theorem dL_goesOn_341 : decode cL_goesOn 341 = .ok (.iconst 2, 1) := by decide +kernel
theorem dL_goesOn_342 : decode cL_goesOn 342 = .ok (.iconst 0, 1) := by decide +kernel
theorem dL_goesOn_343 : decode cL_goesOn 343 = .ok (.invokestatic 190, 3) := by decide +kernel
theorem dL_goesOn_346 : decode cL_goesOn 346 = .ok (.ifCond .ne 7, 3) := by decide +kernel
theorem dL_goesOn_349 : decode cL_goesOn 349 = .ok (.iconst 1, 1) := by decide +kernel
theorem dL_goesOn_350 : decode cL_goesOn 350 = .ok (.goto 4, 3) := by decide +kernel
theorem dL_goesOn_353 : decode cL_goesOn 353 = .ok (.iconst 0, 1) := by decide +kernel
theorem dL_goesOn_354 : decode cL_goesOn 354 = .ok (.iload 16, 2) := by decide +kernel
theorem dL_goesOn_356 : decode cL_goesOn 356 = .ok (.iconst (-1), 1) := by decide +kernel
theorem dL_goesOn_357 : decode cL_goesOn 357 = .ok (.if_icmp .eq 7, 3) := by decide +kernel
theorem dL_goesOn_360 : decode cL_goesOn 360 = .ok (.iconst 1, 1) := by decide +kernel
theorem dL_goesOn_361 : decode cL_goesOn 361 = .ok (.goto 4, 3) := by decide +kernel
theorem dL_goesOn_364 : decode cL_goesOn 364 = .ok (.iconst 0, 1) := by decide +kernel
theorem dL_goesOn_365 : decode cL_goesOn 365 = .ok (.if_icmp .ne 17, 3) := by decide +kernel
theorem dL_goesOn_368 : decode cL_goesOn 368 = .ok (.aload_n 0, 1) := by decide +kernel
theorem dL_goesOn_369 : decode cL_goesOn 369 = .ok (.aload_n 1, 1) := by decide +kernel
theorem dL_goesOn_370 : decode cL_goesOn 370 = .ok (.iload 17, 2) := by decide +kernel
theorem dL_goesOn_372 : decode cL_goesOn 372 = .ok (.invokestatic 245, 3) := by decide +kernel
theorem dL_goesOn_375 : decode cL_goesOn 375 = .ok (.ifCond .eq 7, 3) := by decide +kernel
theorem dL_goesOn_378 : decode cL_goesOn 378 = .ok (.iconst 1, 1) := by decide +kernel
theorem dL_goesOn_379 : decode cL_goesOn 379 = .ok (.goto 4, 3) := by decide +kernel
theorem dL_goesOn_382 : decode cL_goesOn 382 = .ok (.iconst 0, 1) := by decide +kernel
theorem dL_goesOn_383 : decode cL_goesOn 383 = .ok (.istore 14, 2) := by decide +kernel
theorem dL_goesOn_385 : decode cL_goesOn 385 = .ok (.iload 17, 2) := by decide +kernel
theorem dL_goesOn_387 : decode cL_goesOn 387 = .ok (.iconst 1, 1) := by decide +kernel
theorem dL_goesOn_388 : decode cL_goesOn 388 = .ok (.if_icmp .le 50, 3) := by decide +kernel
theorem dL_goesOn_391 : decode cL_goesOn 391 = .ok (.iload 14, 2) := by decide +kernel
theorem dL_goesOn_393 : decode cL_goesOn 393 = .ok (.ifCond .eq 45, 3) := by decide +kernel
theorem dL_goesOn_396 : decode cL_goesOn 396 = .ok (.aload_n 0, 1) := by decide +kernel
theorem dL_goesOn_397 : decode cL_goesOn 397 = .ok (.aload_n 1, 1) := by decide +kernel
theorem dL_goesOn_398 : decode cL_goesOn 398 = .ok (.iload 17, 2) := by decide +kernel
theorem dL_goesOn_400 : decode cL_goesOn 400 = .ok (.iconst 1, 1) := by decide +kernel
theorem dL_goesOn_401 : decode cL_goesOn 401 = .ok (.isub, 1) := by decide +kernel
theorem dL_goesOn_402 : decode cL_goesOn 402 = .ok (.invokestatic 242, 3) := by decide +kernel
theorem dL_goesOn_405 : decode cL_goesOn 405 = .ok (.ifCond .eq 30, 3) := by decide +kernel
theorem dL_goesOn_408 : decode cL_goesOn 408 = .ok (.aload_n 0, 1) := by decide +kernel
theorem dL_goesOn_409 : decode cL_goesOn 409 = .ok (.iconst 3, 1) := by decide +kernel
theorem dL_goesOn_410 : decode cL_goesOn 410 = .ok (.iload_n 3, 1) := by decide +kernel
theorem dL_goesOn_411 : decode cL_goesOn 411 = .ok (.iconst 2, 1) := by decide +kernel
theorem dL_goesOn_412 : decode cL_goesOn 412 = .ok (.iconst 0, 1) := by decide +kernel
theorem dL_goesOn_413 : decode cL_goesOn 413 = .ok (.invokestatic 190, 3) := by decide +kernel
theorem dL_goesOn_416 : decode cL_goesOn 416 = .ok (.ifCond .le 19, 3) := by decide +kernel
theorem dL_goesOn_419 : decode cL_goesOn 419 = .ok (.aload_n 0, 1) := by decide +kernel
theorem dL_goesOn_420 : decode cL_goesOn 420 = .ok (.aload_n 1, 1) := by decide +kernel
theorem dL_goesOn_421 : decode cL_goesOn 421 = .ok (.iload 17, 2) := by decide +kernel
theorem dL_goesOn_423 : decode cL_goesOn 423 = .ok (.iconst 1, 1) := by decide +kernel
theorem dL_goesOn_424 : decode cL_goesOn 424 = .ok (.isub, 1) := by decide +kernel
theorem dL_goesOn_425 : decode cL_goesOn 425 = .ok (.invokestatic 245, 3) := by decide +kernel
theorem dL_goesOn_428 : decode cL_goesOn 428 = .ok (.ifCond .eq 7, 3) := by decide +kernel
theorem dL_goesOn_431 : decode cL_goesOn 431 = .ok (.iconst 1, 1) := by decide +kernel
theorem dL_goesOn_432 : decode cL_goesOn 432 = .ok (.goto 4, 3) := by decide +kernel
theorem dL_goesOn_435 : decode cL_goesOn 435 = .ok (.iconst 0, 1) := by decide +kernel
theorem dL_goesOn_436 : decode cL_goesOn 436 = .ok (.istore 14, 2) := by decide +kernel
theorem dL_goesOn_438 : decode cL_goesOn 438 = .ok (.iload_n 2, 1) := by decide +kernel
theorem dL_goesOn_439 : decode cL_goesOn 439 = .ok (.bipush 10, 2) := by decide +kernel
theorem dL_goesOn_441 : decode cL_goesOn 441 = .ok (.idiv, 1) := by decide +kernel
theorem dL_goesOn_442 : decode cL_goesOn 442 = .ok (.bipush 60, 2) := by decide +kernel
theorem dL_goesOn_444 : decode cL_goesOn 444 = .ok (.irem, 1) := by decide +kernel
theorem dL_goesOn_445 : decode cL_goesOn 445 = .ok (.istore 18, 2) := by decide +kernel
theorem dL_goesOn_447 : decode cL_goesOn 447 = .ok (.aload_n 0, 1) := by decide +kernel
theorem dL_goesOn_448 : decode cL_goesOn 448 = .ok (.bipush 18, 2) := by decide +kernel
theorem dL_goesOn_450 : decode cL_goesOn 450 = .ok (.iload_n 3, 1) := by decide +kernel
theorem dL_goesOn_451 : decode cL_goesOn 451 = .ok (.iload 18, 2) := by decide +kernel
theorem dL_goesOn_453 : decode cL_goesOn 453 = .ok (.iconst 0, 1) := by decide +kernel
theorem dL_goesOn_454 : decode cL_goesOn 454 = .ok (.invokestatic 190, 3) := by decide +kernel
theorem dL_goesOn_457 : decode cL_goesOn 457 = .ok (.istore 19, 2) := by decide +kernel
theorem dL_goesOn_459 : decode cL_goesOn 459 = .ok (.iload 14, 2) := by decide +kernel
theorem dL_goesOn_461 : decode cL_goesOn 461 = .ok (.ifCond .eq 53, 3) := by decide +kernel
theorem dL_goesOn_464 : decode cL_goesOn 464 = .ok (.aload_n 0, 1) := by decide +kernel
theorem dL_goesOn_465 : decode cL_goesOn 465 = .ok (.aload_n 1, 1) := by decide +kernel
theorem dL_goesOn_466 : decode cL_goesOn 466 = .ok (.iload 18, 2) := by decide +kernel
theorem dL_goesOn_468 : decode cL_goesOn 468 = .ok (.invokestatic 242, 3) := by decide +kernel
theorem dL_goesOn_471 : decode cL_goesOn 471 = .ok (.ifCond .eq 43, 3) := by decide +kernel
theorem dL_goesOn_474 : decode cL_goesOn 474 = .ok (.aload_n 0, 1) := by decide +kernel
theorem dL_goesOn_475 : decode cL_goesOn 475 = .ok (.iconst 3, 1) := by decide +kernel
theorem dL_goesOn_476 : decode cL_goesOn 476 = .ok (.iload_n 3, 1) := by decide +kernel
theorem dL_goesOn_477 : decode cL_goesOn 477 = .ok (.iconst 2, 1) := by decide +kernel
theorem dL_goesOn_478 : decode cL_goesOn 478 = .ok (.iconst 0, 1) := by decide +kernel
theorem dL_goesOn_479 : decode cL_goesOn 479 = .ok (.invokestatic 190, 3) := by decide +kernel
theorem dL_goesOn_482 : decode cL_goesOn 482 = .ok (.iload 19, 2) := by decide +kernel
theorem dL_goesOn_484 : decode cL_goesOn 484 = .ok (.if_icmp .ne 30, 3) := by decide +kernel
theorem dL_goesOn_487 : decode cL_goesOn 487 = .ok (.aload_n 0, 1) := by decide +kernel
theorem dL_goesOn_488 : decode cL_goesOn 488 = .ok (.aload_n 1, 1) := by decide +kernel
theorem dL_goesOn_489 : decode cL_goesOn 489 = .ok (.iload 18, 2) := by decide +kernel
theorem dL_goesOn_491 : decode cL_goesOn 491 = .ok (.invokestatic 245, 3) := by decide +kernel
theorem dL_goesOn_494 : decode cL_goesOn 494 = .ok (.ifCond .eq 20, 3) := by decide +kernel
theorem dL_goesOn_497 : decode cL_goesOn 497 = .ok (.aload_n 0, 1) := by decide +kernel
theorem dL_goesOn_498 : decode cL_goesOn 498 = .ok (.iconst 3, 1) := by decide +kernel
theorem dL_goesOn_499 : decode cL_goesOn 499 = .ok (.iload_n 3, 1) := by decide +kernel
theorem dL_goesOn_500 : decode cL_goesOn 500 = .ok (.iconst 2, 1) := by decide +kernel
theorem dL_goesOn_501 : decode cL_goesOn 501 = .ok (.iconst 0, 1) := by decide +kernel
theorem dL_goesOn_502 : decode cL_goesOn 502 = .ok (.invokestatic 190, 3) := by decide +kernel
theorem dL_goesOn_505 : decode cL_goesOn 505 = .ok (.iload 8, 2) := by decide +kernel
theorem dL_goesOn_507 : decode cL_goesOn 507 = .ok (.if_icmp .ne 7, 3) := by decide +kernel
theorem dL_goesOn_510 : decode cL_goesOn 510 = .ok (.iconst 1, 1) := by decide +kernel
theorem dL_goesOn_511 : decode cL_goesOn 511 = .ok (.goto 4, 3) := by decide +kernel
theorem dL_goesOn_514 : decode cL_goesOn 514 = .ok (.iconst 0, 1) := by decide +kernel
theorem dL_goesOn_515 : decode cL_goesOn 515 = .ok (.ireturn, 1) := by decide +kernel
theorem dL_isOrder_0 : decode cL_isOrder 0 = .ok (.aload_n 0, 1) := by decide +kernel
theorem dL_isOrder_1 : decode cL_isOrder 1 = .ok (.bipush 7, 2) := by decide +kernel
theorem dL_isOrder_3 : decode cL_isOrder 3 = .ok (.iconst 0, 1) := by decide +kernel
theorem dL_isOrder_4 : decode cL_isOrder 4 = .ok (.iconst 0, 1) := by decide +kernel
theorem dL_isOrder_5 : decode cL_isOrder 5 = .ok (.iconst 0, 1) := by decide +kernel
theorem dL_isOrder_6 : decode cL_isOrder 6 = .ok (.invokestatic 190, 3) := by decide +kernel
theorem dL_isOrder_9 : decode cL_isOrder 9 = .ok (.iload_n 1, 1) := by decide +kernel
theorem dL_isOrder_10 : decode cL_isOrder 10 = .ok (.sipush 1000, 3) := by decide +kernel
theorem dL_isOrder_13 : decode cL_isOrder 13 = .ok (.idiv, 1) := by decide +kernel
theorem dL_isOrder_14 : decode cL_isOrder 14 = .ok (.if_icmp .ne 61, 3) := by decide +kernel
theorem dL_isOrder_17 : decode cL_isOrder 17 = .ok (.aload_n 0, 1) := by decide +kernel
theorem dL_isOrder_18 : decode cL_isOrder 18 = .ok (.bipush 7, 2) := by decide +kernel
theorem dL_isOrder_20 : decode cL_isOrder 20 = .ok (.iconst 1, 1) := by decide +kernel
theorem dL_isOrder_21 : decode cL_isOrder 21 = .ok (.iconst 0, 1) := by decide +kernel
theorem dL_isOrder_22 : decode cL_isOrder 22 = .ok (.iconst 0, 1) := by decide +kernel
theorem dL_isOrder_23 : decode cL_isOrder 23 = .ok (.invokestatic 190, 3) := by decide +kernel
theorem dL_isOrder_26 : decode cL_isOrder 26 = .ok (.iload_n 1, 1) := by decide +kernel
theorem dL_isOrder_27 : decode cL_isOrder 27 = .ok (.bipush 100, 2) := by decide +kernel
theorem dL_isOrder_29 : decode cL_isOrder 29 = .ok (.idiv, 1) := by decide +kernel
theorem dL_isOrder_30 : decode cL_isOrder 30 = .ok (.bipush 10, 2) := by decide +kernel
theorem dL_isOrder_32 : decode cL_isOrder 32 = .ok (.irem, 1) := by decide +kernel
theorem dL_isOrder_33 : decode cL_isOrder 33 = .ok (.if_icmp .ne 42, 3) := by decide +kernel
theorem dL_isOrder_36 : decode cL_isOrder 36 = .ok (.aload_n 0, 1) := by decide +kernel
theorem dL_isOrder_37 : decode cL_isOrder 37 = .ok (.bipush 7, 2) := by decide +kernel
theorem dL_isOrder_39 : decode cL_isOrder 39 = .ok (.iconst 2, 1) := by decide +kernel
theorem dL_isOrder_40 : decode cL_isOrder 40 = .ok (.iconst 0, 1) := by decide +kernel
theorem dL_isOrder_41 : decode cL_isOrder 41 = .ok (.iconst 0, 1) := by decide +kernel
theorem dL_isOrder_42 : decode cL_isOrder 42 = .ok (.invokestatic 190, 3) := by decide +kernel
theorem dL_isOrder_45 : decode cL_isOrder 45 = .ok (.iload_n 1, 1) := by decide +kernel
theorem dL_isOrder_46 : decode cL_isOrder 46 = .ok (.bipush 10, 2) := by decide +kernel
theorem dL_isOrder_48 : decode cL_isOrder 48 = .ok (.idiv, 1) := by decide +kernel
theorem dL_isOrder_49 : decode cL_isOrder 49 = .ok (.bipush 10, 2) := by decide +kernel
theorem dL_isOrder_51 : decode cL_isOrder 51 = .ok (.irem, 1) := by decide +kernel
theorem dL_isOrder_52 : decode cL_isOrder 52 = .ok (.if_icmp .ne 23, 3) := by decide +kernel
theorem dL_isOrder_55 : decode cL_isOrder 55 = .ok (.aload_n 0, 1) := by decide +kernel
theorem dL_isOrder_56 : decode cL_isOrder 56 = .ok (.bipush 7, 2) := by decide +kernel
theorem dL_isOrder_58 : decode cL_isOrder 58 = .ok (.iconst 3, 1) := by decide +kernel
theorem dL_isOrder_59 : decode cL_isOrder 59 = .ok (.iconst 0, 1) := by decide +kernel
theorem dL_isOrder_60 : decode cL_isOrder 60 = .ok (.iconst 0, 1) := by decide +kernel
theorem dL_isOrder_61 : decode cL_isOrder 61 = .ok (.invokestatic 190, 3) := by decide +kernel
theorem dL_isOrder_64 : decode cL_isOrder 64 = .ok (.iload_n 1, 1) := by decide +kernel
theorem dL_isOrder_65 : decode cL_isOrder 65 = .ok (.bipush 10, 2) := by decide +kernel
theorem dL_isOrder_67 : decode cL_isOrder 67 = .ok (.irem, 1) := by decide +kernel
theorem dL_isOrder_68 : decode cL_isOrder 68 = .ok (.if_icmp .ne 7, 3) := by decide +kernel
theorem dL_isOrder_71 : decode cL_isOrder 71 = .ok (.iconst 1, 1) := by decide +kernel
theorem dL_isOrder_72 : decode cL_isOrder 72 = .ok (.goto 4, 3) := by decide +kernel
theorem dL_isOrder_75 : decode cL_isOrder 75 = .ok (.iconst 0, 1) := by decide +kernel
theorem dL_isOrder_76 : decode cL_isOrder 76 = .ok (.ireturn, 1) := by decide +kernel
theorem dL_best_0 : decode cL_best 0 = .ok (.iconst 1, 1) := by decide +kernel
theorem dL_best_1 : decode cL_best 1 = .ok (.iload_n 2, 1) := by decide +kernel
theorem dL_best_2 : decode cL_best 2 = .ok (.bipush 12, 2) := by decide +kernel
theorem dL_best_4 : decode cL_best 4 = .ok (.irem, 1) := by decide +kernel
theorem dL_best_5 : decode cL_best 5 = .ok (.iadd, 1) := by decide +kernel
theorem dL_best_6 : decode cL_best 6 = .ok (.istore_n 3, 1) := by decide +kernel
theorem dL_best_7 : decode cL_best 7 = .ok (.aload_n 0, 1) := by decide +kernel
theorem dL_best_8 : decode cL_best 8 = .ok (.bipush 21, 2) := by decide +kernel
theorem dL_best_10 : decode cL_best 10 = .ok (.iload_n 3, 1) := by decide +kernel
theorem dL_best_11 : decode cL_best 11 = .ok (.iconst 0, 1) := by decide +kernel
theorem dL_best_12 : decode cL_best 12 = .ok (.iconst 0, 1) := by decide +kernel
theorem dL_best_13 : decode cL_best 13 = .ok (.invokestatic 190, 3) := by decide +kernel
theorem dL_best_16 : decode cL_best 16 = .ok (.istore 4, 2) := by decide +kernel
theorem dL_best_18 : decode cL_best 18 = .ok (.sipush 1000, 3) := by decide +kernel
theorem dL_best_21 : decode cL_best 21 = .ok (.aload_n 0, 1) := by decide +kernel
theorem dL_best_22 : decode cL_best 22 = .ok (.bipush 7, 2) := by decide +kernel
theorem dL_best_24 : decode cL_best 24 = .ok (.iconst 0, 1) := by decide +kernel
theorem dL_best_25 : decode cL_best 25 = .ok (.iconst 0, 1) := by decide +kernel
theorem dL_best_26 : decode cL_best 26 = .ok (.iconst 0, 1) := by decide +kernel
theorem dL_best_27 : decode cL_best 27 = .ok (.invokestatic 190, 3) := by decide +kernel
theorem dL_best_30 : decode cL_best 30 = .ok (.imul, 1) := by decide +kernel
theorem dL_best_31 : decode cL_best 31 = .ok (.bipush 100, 2) := by decide +kernel
theorem dL_best_33 : decode cL_best 33 = .ok (.aload_n 0, 1) := by decide +kernel
theorem dL_best_34 : decode cL_best 34 = .ok (.bipush 7, 2) := by decide +kernel
theorem dL_best_36 : decode cL_best 36 = .ok (.iconst 1, 1) := by decide +kernel
theorem dL_best_37 : decode cL_best 37 = .ok (.iconst 0, 1) := by decide +kernel
theorem dL_best_38 : decode cL_best 38 = .ok (.iconst 0, 1) := by decide +kernel
theorem dL_best_39 : decode cL_best 39 = .ok (.invokestatic 190, 3) := by decide +kernel
theorem dL_best_42 : decode cL_best 42 = .ok (.imul, 1) := by decide +kernel
theorem dL_best_43 : decode cL_best 43 = .ok (.iadd, 1) := by decide +kernel
theorem dL_best_44 : decode cL_best 44 = .ok (.bipush 10, 2) := by decide +kernel
theorem dL_best_46 : decode cL_best 46 = .ok (.aload_n 0, 1) := by decide +kernel
theorem dL_best_47 : decode cL_best 47 = .ok (.bipush 7, 2) := by decide +kernel
theorem dL_best_49 : decode cL_best 49 = .ok (.iconst 2, 1) := by decide +kernel
theorem dL_best_50 : decode cL_best 50 = .ok (.iconst 0, 1) := by decide +kernel
theorem dL_best_51 : decode cL_best 51 = .ok (.iconst 0, 1) := by decide +kernel
theorem dL_best_52 : decode cL_best 52 = .ok (.invokestatic 190, 3) := by decide +kernel
theorem dL_best_55 : decode cL_best 55 = .ok (.imul, 1) := by decide +kernel
theorem dL_best_56 : decode cL_best 56 = .ok (.iadd, 1) := by decide +kernel
theorem dL_best_57 : decode cL_best 57 = .ok (.aload_n 0, 1) := by decide +kernel
theorem dL_best_58 : decode cL_best 58 = .ok (.bipush 7, 2) := by decide +kernel
theorem dL_best_60 : decode cL_best 60 = .ok (.iconst 3, 1) := by decide +kernel
theorem dL_best_61 : decode cL_best 61 = .ok (.iconst 0, 1) := by decide +kernel
theorem dL_best_62 : decode cL_best 62 = .ok (.iconst 0, 1) := by decide +kernel
theorem dL_best_63 : decode cL_best 63 = .ok (.invokestatic 190, 3) := by decide +kernel
theorem dL_best_66 : decode cL_best 66 = .ok (.iadd, 1) := by decide +kernel
theorem dL_best_67 : decode cL_best 67 = .ok (.istore 5, 2) := by decide +kernel
theorem dL_best_69 : decode cL_best 69 = .ok (.aload_n 0, 1) := by decide +kernel
theorem dL_best_70 : decode cL_best 70 = .ok (.aload_n 1, 1) := by decide +kernel
theorem dL_best_71 : decode cL_best 71 = .ok (.iload_n 3, 1) := by decide +kernel
theorem dL_best_72 : decode cL_best 72 = .ok (.invokestatic 242, 3) := by decide +kernel
theorem dL_best_75 : decode cL_best 75 = .ok (.istore 6, 2) := by decide +kernel
theorem dL_best_77 : decode cL_best 77 = .ok (.aload_n 0, 1) := by decide +kernel
theorem dL_best_78 : decode cL_best 78 = .ok (.iconst 2, 1) := by decide +kernel
theorem dL_best_79 : decode cL_best 79 = .ok (.bipush 6, 2) := by decide +kernel
theorem dL_best_81 : decode cL_best 81 = .ok (.iconst 0, 1) := by decide +kernel
theorem dL_best_82 : decode cL_best 82 = .ok (.iconst 0, 1) := by decide +kernel
theorem dL_best_83 : decode cL_best 83 = .ok (.invokestatic 190, 3) := by decide +kernel
theorem dL_best_86 : decode cL_best 86 = .ok (.istore 7, 2) := by decide +kernel
theorem dL_best_88 : decode cL_best 88 = .ok (.iload 6, 2) := by decide +kernel
theorem dL_best_90 : decode cL_best 90 = .ok (.ifCond .eq 16, 3) := by decide +kernel
theorem dL_best_93 : decode cL_best 93 = .ok (.aload_n 0, 1) := by decide +kernel
theorem dL_best_94 : decode cL_best 94 = .ok (.aload_n 1, 1) := by decide +kernel
theorem dL_best_95 : decode cL_best 95 = .ok (.iload_n 3, 1) := by decide +kernel
theorem dL_best_96 : decode cL_best 96 = .ok (.invokestatic 245, 3) := by decide +kernel
theorem dL_best_99 : decode cL_best 99 = .ok (.ifCond .eq 7, 3) := by decide +kernel
theorem dL_best_102 : decode cL_best 102 = .ok (.iconst 1, 1) := by decide +kernel
theorem dL_best_103 : decode cL_best 103 = .ok (.goto 4, 3) := by decide +kernel
theorem dL_best_106 : decode cL_best 106 = .ok (.iconst 0, 1) := by decide +kernel
theorem dL_best_107 : decode cL_best 107 = .ok (.istore 6, 2) := by decide +kernel
theorem dL_best_109 : decode cL_best 109 = .ok (.iconst 0, 1) := by decide +kernel
theorem dL_best_110 : decode cL_best 110 = .ok (.istore 8, 2) := by decide +kernel
theorem dL_best_112 : decode cL_best 112 = .ok (.iconst 0, 1) := by decide +kernel
theorem dL_best_113 : decode cL_best 113 = .ok (.istore 9, 2) := by decide +kernel
theorem dL_best_115 : decode cL_best 115 = .ok (.iload 9, 2) := by decide +kernel
theorem dL_best_117 : decode cL_best 117 = .ok (.iconst 3, 1) := by decide +kernel
theorem dL_best_118 : decode cL_best 118 = .ok (.if_icmp .ge 109, 3) := by decide +kernel
theorem dL_best_121 : decode cL_best 121 = .ok (.iload 6, 2) := by decide +kernel
theorem dL_best_123 : decode cL_best 123 = .ok (.ifCond .eq 104, 3) := by decide +kernel
theorem dL_best_126 : decode cL_best 126 = .ok (.iload 9, 2) := by decide +kernel
theorem dL_best_128 : decode cL_best 128 = .ok (.ifCond .ne 12, 3) := by decide +kernel
theorem dL_best_131 : decode cL_best 131 = .ok (.iload 4, 2) := by decide +kernel
theorem dL_best_133 : decode cL_best 133 = .ok (.sipush 1000, 3) := by decide +kernel
theorem dL_best_136 : decode cL_best 136 = .ok (.idiv, 1) := by decide +kernel
theorem dL_best_137 : decode cL_best 137 = .ok (.goto 28, 3) := by decide +kernel
theorem dL_best_140 : decode cL_best 140 = .ok (.iload 9, 2) := by decide +kernel
theorem dL_best_142 : decode cL_best 142 = .ok (.iconst 1, 1) := by decide +kernel
theorem dL_best_143 : decode cL_best 143 = .ok (.if_icmp .ne 14, 3) := by decide +kernel
theorem dL_best_146 : decode cL_best 146 = .ok (.iload 4, 2) := by decide +kernel
theorem dL_best_148 : decode cL_best 148 = .ok (.bipush 100, 2) := by decide +kernel
theorem dL_best_150 : decode cL_best 150 = .ok (.idiv, 1) := by decide +kernel
theorem dL_best_151 : decode cL_best 151 = .ok (.bipush 10, 2) := by decide +kernel
theorem dL_best_153 : decode cL_best 153 = .ok (.irem, 1) := by decide +kernel
theorem dL_best_154 : decode cL_best 154 = .ok (.goto 11, 3) := by decide +kernel
theorem dL_best_157 : decode cL_best 157 = .ok (.iload 4, 2) := by decide +kernel
theorem dL_best_159 : decode cL_best 159 = .ok (.bipush 10, 2) := by decide +kernel
theorem dL_best_161 : decode cL_best 161 = .ok (.idiv, 1) := by decide +kernel
theorem dL_best_162 : decode cL_best 162 = .ok (.bipush 10, 2) := by decide +kernel
theorem dL_best_164 : decode cL_best 164 = .ok (.irem, 1) := by decide +kernel
theorem dL_best_165 : decode cL_best 165 = .ok (.istore 10, 2) := by decide +kernel
theorem dL_best_167 : decode cL_best 167 = .ok (.aload_n 0, 1) := by decide +kernel
theorem dL_best_168 : decode cL_best 168 = .ok (.bipush 13, 2) := by decide +kernel
theorem dL_best_170 : decode cL_best 170 = .ok (.aload_n 0, 1) := by decide +kernel
theorem dL_best_171 : decode cL_best 171 = .ok (.bipush 7, 2) := by decide +kernel
theorem dL_best_173 : decode cL_best 173 = .ok (.iload 9, 2) := by decide +kernel
theorem dL_best_175 : decode cL_best 175 = .ok (.iconst 0, 1) := by decide +kernel
theorem dL_best_176 : decode cL_best 176 = .ok (.iconst 0, 1) := by decide +kernel
theorem dL_best_177 : decode cL_best 177 = .ok (.invokestatic 190, 3) := by decide +kernel
theorem dL_best_180 : decode cL_best 180 = .ok (.iload 10, 2) := by decide +kernel
theorem dL_best_182 : decode cL_best 182 = .ok (.iconst 0, 1) := by decide +kernel
theorem dL_best_183 : decode cL_best 183 = .ok (.invokestatic 190, 3) := by decide +kernel
theorem dL_best_186 : decode cL_best 186 = .ok (.ifCond .lt 29, 3) := by decide +kernel
theorem dL_best_189 : decode cL_best 189 = .ok (.aload_n 1, 1) := by decide +kernel
theorem dL_best_190 : decode cL_best 190 = .ok (.bipush 13, 2) := by decide +kernel
theorem dL_best_192 : decode cL_best 192 = .ok (.aload_n 1, 1) := by decide +kernel
theorem dL_best_193 : decode cL_best 193 = .ok (.bipush 7, 2) := by decide +kernel
theorem dL_best_195 : decode cL_best 195 = .ok (.iload 9, 2) := by decide +kernel
theorem dL_best_197 : decode cL_best 197 = .ok (.iconst 0, 1) := by decide +kernel
theorem dL_best_198 : decode cL_best 198 = .ok (.iconst 0, 1) := by decide +kernel
theorem dL_best_199 : decode cL_best 199 = .ok (.invokestatic 190, 3) := by decide +kernel
theorem dL_best_202 : decode cL_best 202 = .ok (.iload 10, 2) := by decide +kernel
theorem dL_best_204 : decode cL_best 204 = .ok (.iconst 0, 1) := by decide +kernel
theorem dL_best_205 : decode cL_best 205 = .ok (.invokestatic 190, 3) := by decide +kernel
theorem dL_best_208 : decode cL_best 208 = .ok (.ifCond .lt 7, 3) := by decide +kernel
theorem dL_best_211 : decode cL_best 211 = .ok (.iconst 1, 1) := by decide +kernel
theorem dL_best_212 : decode cL_best 212 = .ok (.goto 4, 3) := by decide +kernel
theorem dL_best_215 : decode cL_best 215 = .ok (.iconst 0, 1) := by decide +kernel
theorem dL_best_216 : decode cL_best 216 = .ok (.istore 6, 2) := by decide +kernel
theorem dL_best_218 : decode cL_best 218 = .ok (.iinc 8 1, 3) := by decide +kernel
theorem dL_best_221 : decode cL_best 221 = .ok (.iinc 9 1, 3) := by decide +kernel
theorem dL_best_224 : decode cL_best 224 = .ok (.goto (-109), 3) := by decide +kernel
theorem dL_best_227 : decode cL_best 227 = .ok (.iload 6, 2) := by decide +kernel
theorem dL_best_229 : decode cL_best 229 = .ok (.ifCond .eq 25, 3) := by decide +kernel
theorem dL_best_232 : decode cL_best 232 = .ok (.aload_n 0, 1) := by decide +kernel
theorem dL_best_233 : decode cL_best 233 = .ok (.iload 4, 2) := by decide +kernel
theorem dL_best_235 : decode cL_best 235 = .ok (.invokestatic 248, 3) := by decide +kernel
theorem dL_best_238 : decode cL_best 238 = .ok (.ifCond .eq 16, 3) := by decide +kernel
theorem dL_best_241 : decode cL_best 241 = .ok (.aload_n 0, 1) := by decide +kernel
theorem dL_best_242 : decode cL_best 242 = .ok (.aload_n 1, 1) := by decide +kernel
theorem dL_best_243 : decode cL_best 243 = .ok (.iload_n 3, 1) := by decide +kernel
theorem dL_best_244 : decode cL_best 244 = .ok (.invokestatic 242, 3) := by decide +kernel
theorem dL_best_247 : decode cL_best 247 = .ok (.ifCond .eq 7, 3) := by decide +kernel
theorem dL_best_250 : decode cL_best 250 = .ok (.iconst 1, 1) := by decide +kernel
theorem dL_best_251 : decode cL_best 251 = .ok (.goto 4, 3) := by decide +kernel
theorem dL_best_254 : decode cL_best 254 = .ok (.iconst 0, 1) := by decide +kernel
theorem dL_best_255 : decode cL_best 255 = .ok (.istore 6, 2) := by decide +kernel
theorem dL_best_257 : decode cL_best 257 = .ok (.aload_n 0, 1) := by decide +kernel
theorem dL_best_258 : decode cL_best 258 = .ok (.iconst 2, 1) := by decide +kernel
theorem dL_best_259 : decode cL_best 259 = .ok (.bipush 6, 2) := by decide +kernel
theorem dL_best_261 : decode cL_best 261 = .ok (.iconst 0, 1) := by decide +kernel
theorem dL_best_262 : decode cL_best 262 = .ok (.iconst 0, 1) := by decide +kernel
theorem dL_best_263 : decode cL_best 263 = .ok (.invokestatic 190, 3) := by decide +kernel
theorem dL_best_266 : decode cL_best 266 = .ok (.istore 9, 2) := by decide +kernel
theorem dL_best_268 : decode cL_best 268 = .ok (.iload 6, 2) := by decide +kernel
theorem dL_best_270 : decode cL_best 270 = .ok (.ifCond .eq 37, 3) := by decide +kernel
theorem dL_best_273 : decode cL_best 273 = .ok (.iload 9, 2) := by decide +kernel
theorem dL_best_275 : decode cL_best 275 = .ok (.iload 7, 2) := by decide +kernel
theorem dL_best_277 : decode cL_best 277 = .ok (.if_icmp .lt 17, 3) := by decide +kernel
theorem dL_best_280 : decode cL_best 280 = .ok (.iload 9, 2) := by decide +kernel
theorem dL_best_282 : decode cL_best 282 = .ok (.iload 7, 2) := by decide +kernel
theorem dL_best_284 : decode cL_best 284 = .ok (.if_icmp .ne 23, 3) := by decide +kernel
theorem dL_best_287 : decode cL_best 287 = .ok (.iload 4, 2) := by decide +kernel
theorem dL_best_289 : decode cL_best 289 = .ok (.iload 5, 2) := by decide +kernel
theorem dL_best_291 : decode cL_best 291 = .ok (.if_icmp .gt 16, 3) := by decide +kernel
theorem dL_best_294 : decode cL_best 294 = .ok (.aload_n 0, 1) := by decide +kernel
theorem dL_best_295 : decode cL_best 295 = .ok (.aload_n 1, 1) := by decide +kernel
theorem dL_best_296 : decode cL_best 296 = .ok (.iload_n 3, 1) := by decide +kernel
theorem dL_best_297 : decode cL_best 297 = .ok (.invokestatic 245, 3) := by decide +kernel
theorem dL_best_300 : decode cL_best 300 = .ok (.ifCond .eq 7, 3) := by decide +kernel
theorem dL_best_303 : decode cL_best 303 = .ok (.iconst 1, 1) := by decide +kernel
theorem dL_best_304 : decode cL_best 304 = .ok (.goto 4, 3) := by decide +kernel
theorem dL_best_307 : decode cL_best 307 = .ok (.iconst 0, 1) := by decide +kernel
theorem dL_best_308 : decode cL_best 308 = .ok (.istore 6, 2) := by decide +kernel
theorem dL_best_310 : decode cL_best 310 = .ok (.iconst 0, 1) := by decide +kernel
theorem dL_best_311 : decode cL_best 311 = .ok (.istore 10, 2) := by decide +kernel
theorem dL_best_313 : decode cL_best 313 = .ok (.iload 10, 2) := by decide +kernel
theorem dL_best_315 : decode cL_best 315 = .ok (.iload 8, 2) := by decide +kernel
theorem dL_best_317 : decode cL_best 317 = .ok (.if_icmp .ge 51, 3) := by decide +kernel
theorem dL_best_320 : decode cL_best 320 = .ok (.iload 6, 2) := by decide +kernel
theorem dL_best_322 : decode cL_best 322 = .ok (.ifCond .eq 46, 3) := by decide +kernel
theorem dL_best_325 : decode cL_best 325 = .ok (.aload_n 0, 1) := by decide +kernel
theorem dL_best_326 : decode cL_best 326 = .ok (.bipush 16, 2) := by decide +kernel
theorem dL_best_328 : decode cL_best 328 = .ok (.iconst 0, 1) := by decide +kernel
theorem dL_best_329 : decode cL_best 329 = .ok (.iconst 0, 1) := by decide +kernel
theorem dL_best_330 : decode cL_best 330 = .ok (.iconst 0, 1) := by decide +kernel
theorem dL_best_331 : decode cL_best 331 = .ok (.invokestatic 190, 3) := by decide +kernel
theorem dL_best_334 : decode cL_best 334 = .ok (.invokestatic 238, 3) := by decide +kernel
theorem dL_best_337 : decode cL_best 337 = .ok (.ifCond .ne 22, 3) := by decide +kernel
theorem dL_best_340 : decode cL_best 340 = .ok (.aload_n 1, 1) := by decide +kernel
theorem dL_best_341 : decode cL_best 341 = .ok (.bipush 16, 2) := by decide +kernel
theorem dL_best_343 : decode cL_best 343 = .ok (.iconst 0, 1) := by decide +kernel
theorem dL_best_344 : decode cL_best 344 = .ok (.iconst 0, 1) := by decide +kernel
theorem dL_best_345 : decode cL_best 345 = .ok (.iconst 0, 1) := by decide +kernel
theorem dL_best_346 : decode cL_best 346 = .ok (.invokestatic 190, 3) := by decide +kernel
theorem dL_best_349 : decode cL_best 349 = .ok (.invokestatic 238, 3) := by decide +kernel
theorem dL_best_352 : decode cL_best 352 = .ok (.ifCond .ne 7, 3) := by decide +kernel
theorem dL_best_355 : decode cL_best 355 = .ok (.iconst 1, 1) := by decide +kernel
theorem dL_best_356 : decode cL_best 356 = .ok (.goto 4, 3) := by decide +kernel
theorem dL_best_359 : decode cL_best 359 = .ok (.iconst 0, 1) := by decide +kernel
theorem dL_best_360 : decode cL_best 360 = .ok (.istore 6, 2) := by decide +kernel
theorem dL_best_362 : decode cL_best 362 = .ok (.iinc 10 1, 3) := by decide +kernel
theorem dL_best_365 : decode cL_best 365 = .ok (.goto (-52), 3) := by decide +kernel
theorem dL_best_368 : decode cL_best 368 = .ok (.aload_n 0, 1) := by decide +kernel
theorem dL_best_369 : decode cL_best 369 = .ok (.bipush 20, 2) := by decide +kernel
theorem dL_best_371 : decode cL_best 371 = .ok (.iload_n 3, 1) := by decide +kernel
theorem dL_best_372 : decode cL_best 372 = .ok (.iconst 0, 1) := by decide +kernel
theorem dL_best_373 : decode cL_best 373 = .ok (.iconst 0, 1) := by decide +kernel
theorem dL_best_374 : decode cL_best 374 = .ok (.invokestatic 190, 3) := by decide +kernel
theorem dL_best_377 : decode cL_best 377 = .ok (.istore 10, 2) := by decide +kernel
theorem dL_best_379 : decode cL_best 379 = .ok (.aload_n 0, 1) := by decide +kernel
theorem dL_best_380 : decode cL_best 380 = .ok (.bipush 14, 2) := by decide +kernel
theorem dL_best_382 : decode cL_best 382 = .ok (.iconst 0, 1) := by decide +kernel
theorem dL_best_383 : decode cL_best 383 = .ok (.iload 10, 2) := by decide +kernel
theorem dL_best_385 : decode cL_best 385 = .ok (.iconst 0, 1) := by decide +kernel
theorem dL_best_386 : decode cL_best 386 = .ok (.invokestatic 190, 3) := by decide +kernel
theorem dL_best_389 : decode cL_best 389 = .ok (.istore 11, 2) := by decide +kernel
theorem dL_best_391 : decode cL_best 391 = .ok (.iload 6, 2) := by decide +kernel
theorem dL_best_393 : decode cL_best 393 = .ok (.ifCond .eq 34, 3) := by decide +kernel
theorem dL_best_396 : decode cL_best 396 = .ok (.aload_n 1, 1) := by decide +kernel
theorem dL_best_397 : decode cL_best 397 = .ok (.bipush 14, 2) := by decide +kernel
theorem dL_best_399 : decode cL_best 399 = .ok (.iconst 0, 1) := by decide +kernel
theorem dL_best_400 : decode cL_best 400 = .ok (.iload 10, 2) := by decide +kernel
theorem dL_best_402 : decode cL_best 402 = .ok (.iconst 0, 1) := by decide +kernel
theorem dL_best_403 : decode cL_best 403 = .ok (.invokestatic 190, 3) := by decide +kernel
theorem dL_best_406 : decode cL_best 406 = .ok (.iload 11, 2) := by decide +kernel
theorem dL_best_408 : decode cL_best 408 = .ok (.if_icmp .ne 19, 3) := by decide +kernel
theorem dL_best_411 : decode cL_best 411 = .ok (.iload 10, 2) := by decide +kernel
theorem dL_best_413 : decode cL_best 413 = .ok (.ifCond .lt 14, 3) := by decide +kernel
theorem dL_best_416 : decode cL_best 416 = .ok (.iload 10, 2) := by decide +kernel
theorem dL_best_418 : decode cL_best 418 = .ok (.bipush 90, 2) := by decide +kernel
theorem dL_best_420 : decode cL_best 420 = .ok (.if_icmp .gt 7, 3) := by decide +kernel
theorem dL_best_423 : decode cL_best 423 = .ok (.iconst 1, 1) := by decide +kernel
theorem dL_best_424 : decode cL_best 424 = .ok (.goto 4, 3) := by decide +kernel
theorem dL_best_427 : decode cL_best 427 = .ok (.iconst 0, 1) := by decide +kernel
theorem dL_best_428 : decode cL_best 428 = .ok (.istore 6, 2) := by decide +kernel
theorem dL_best_430 : decode cL_best 430 = .ok (.iconst 0, 1) := by decide +kernel
theorem dL_best_431 : decode cL_best 431 = .ok (.istore 12, 2) := by decide +kernel
theorem dL_best_433 : decode cL_best 433 = .ok (.iload 12, 2) := by decide +kernel
theorem dL_best_435 : decode cL_best 435 = .ok (.aload_n 0, 1) := by decide +kernel
theorem dL_best_436 : decode cL_best 436 = .ok (.iconst 2, 1) := by decide +kernel
theorem dL_best_437 : decode cL_best 437 = .ok (.iconst 0, 1) := by decide +kernel
theorem dL_best_438 : decode cL_best 438 = .ok (.iconst 0, 1) := by decide +kernel
theorem dL_best_439 : decode cL_best 439 = .ok (.iconst 0, 1) := by decide +kernel
theorem dL_best_440 : decode cL_best 440 = .ok (.invokestatic 190, 3) := by decide +kernel
theorem dL_best_443 : decode cL_best 443 = .ok (.if_icmp .ge 35, 3) := by decide +kernel
theorem dL_best_446 : decode cL_best 446 = .ok (.iload 6, 2) := by decide +kernel
theorem dL_best_448 : decode cL_best 448 = .ok (.ifCond .eq 30, 3) := by decide +kernel
theorem dL_best_451 : decode cL_best 451 = .ok (.aload_n 0, 1) := by decide +kernel
theorem dL_best_452 : decode cL_best 452 = .ok (.bipush 17, 2) := by decide +kernel
theorem dL_best_454 : decode cL_best 454 = .ok (.iload 12, 2) := by decide +kernel
theorem dL_best_456 : decode cL_best 456 = .ok (.iconst 0, 1) := by decide +kernel
theorem dL_best_457 : decode cL_best 457 = .ok (.iconst 0, 1) := by decide +kernel
theorem dL_best_458 : decode cL_best 458 = .ok (.invokestatic 190, 3) := by decide +kernel
theorem dL_best_461 : decode cL_best 461 = .ok (.iconst 4, 1) := by decide +kernel
theorem dL_best_462 : decode cL_best 462 = .ok (.if_icmp .ge 7, 3) := by decide +kernel
theorem dL_best_465 : decode cL_best 465 = .ok (.iconst 1, 1) := by decide +kernel
theorem dL_best_466 : decode cL_best 466 = .ok (.goto 4, 3) := by decide +kernel
theorem dL_best_469 : decode cL_best 469 = .ok (.iconst 0, 1) := by decide +kernel
theorem dL_best_470 : decode cL_best 470 = .ok (.istore 6, 2) := by decide +kernel
theorem dL_best_472 : decode cL_best 472 = .ok (.iinc 12 1, 3) := by decide +kernel
theorem dL_best_475 : decode cL_best 475 = .ok (.goto (-42), 3) := by decide +kernel
theorem dL_best_478 : decode cL_best 478 = .ok (.aload_n 0, 1) := by decide +kernel
theorem dL_best_479 : decode cL_best 479 = .ok (.iconst 2, 1) := by decide +kernel
theorem dL_best_480 : decode cL_best 480 = .ok (.bipush 11, 2) := by decide +kernel
theorem dL_best_482 : decode cL_best 482 = .ok (.iconst 0, 1) := by decide +kernel
theorem dL_best_483 : decode cL_best 483 = .ok (.iconst 0, 1) := by decide +kernel
theorem dL_best_484 : decode cL_best 484 = .ok (.invokestatic 190, 3) := by decide +kernel
theorem dL_best_487 : decode cL_best 487 = .ok (.istore 12, 2) := by decide +kernel
theorem dL_best_489 : decode cL_best 489 = .ok (.iload 6, 2) := by decide +kernel
theorem dL_best_491 : decode cL_best 491 = .ok (.ifCond .eq 53, 3) := by decide +kernel
theorem dL_best_494 : decode cL_best 494 = .ok (.aload_n 0, 1) := by decide +kernel
theorem dL_best_495 : decode cL_best 495 = .ok (.aload_n 1, 1) := by decide +kernel
theorem dL_best_496 : decode cL_best 496 = .ok (.iload_n 3, 1) := by decide +kernel
theorem dL_best_497 : decode cL_best 497 = .ok (.invokestatic 242, 3) := by decide +kernel
theorem dL_best_500 : decode cL_best 500 = .ok (.ifCond .eq 44, 3) := by decide +kernel
theorem dL_best_503 : decode cL_best 503 = .ok (.aload_n 0, 1) := by decide +kernel
theorem dL_best_504 : decode cL_best 504 = .ok (.iconst 2, 1) := by decide +kernel
theorem dL_best_505 : decode cL_best 505 = .ok (.bipush 11, 2) := by decide +kernel
theorem dL_best_507 : decode cL_best 507 = .ok (.iconst 0, 1) := by decide +kernel
theorem dL_best_508 : decode cL_best 508 = .ok (.iconst 0, 1) := by decide +kernel
theorem dL_best_509 : decode cL_best 509 = .ok (.invokestatic 190, 3) := by decide +kernel
theorem dL_best_512 : decode cL_best 512 = .ok (.iload 12, 2) := by decide +kernel
theorem dL_best_514 : decode cL_best 514 = .ok (.if_icmp .ne 30, 3) := by decide +kernel
theorem dL_best_517 : decode cL_best 517 = .ok (.aload_n 0, 1) := by decide +kernel
theorem dL_best_518 : decode cL_best 518 = .ok (.aload_n 1, 1) := by decide +kernel
theorem dL_best_519 : decode cL_best 519 = .ok (.iload_n 3, 1) := by decide +kernel
theorem dL_best_520 : decode cL_best 520 = .ok (.invokestatic 245, 3) := by decide +kernel
theorem dL_best_523 : decode cL_best 523 = .ok (.ifCond .eq 21, 3) := by decide +kernel
theorem dL_best_526 : decode cL_best 526 = .ok (.aload_n 0, 1) := by decide +kernel
theorem dL_best_527 : decode cL_best 527 = .ok (.bipush 20, 2) := by decide +kernel
theorem dL_best_529 : decode cL_best 529 = .ok (.iload_n 3, 1) := by decide +kernel
theorem dL_best_530 : decode cL_best 530 = .ok (.iconst 0, 1) := by decide +kernel
theorem dL_best_531 : decode cL_best 531 = .ok (.iconst 0, 1) := by decide +kernel
theorem dL_best_532 : decode cL_best 532 = .ok (.invokestatic 190, 3) := by decide +kernel
theorem dL_best_535 : decode cL_best 535 = .ok (.iload 10, 2) := by decide +kernel
theorem dL_best_537 : decode cL_best 537 = .ok (.if_icmp .ne 7, 3) := by decide +kernel
theorem dL_best_540 : decode cL_best 540 = .ok (.iconst 1, 1) := by decide +kernel
theorem dL_best_541 : decode cL_best 541 = .ok (.goto 4, 3) := by decide +kernel
theorem dL_best_544 : decode cL_best 544 = .ok (.iconst 0, 1) := by decide +kernel
theorem dL_best_545 : decode cL_best 545 = .ok (.istore 6, 2) := by decide +kernel
theorem dL_best_547 : decode cL_best 547 = .ok (.iload 6, 2) := by decide +kernel
theorem dL_best_549 : decode cL_best 549 = .ok (.ifCond .eq 51, 3) := by decide +kernel
theorem dL_best_552 : decode cL_best 552 = .ok (.aload_n 0, 1) := by decide +kernel
theorem dL_best_553 : decode cL_best 553 = .ok (.bipush 16, 2) := by decide +kernel
theorem dL_best_555 : decode cL_best 555 = .ok (.iconst 0, 1) := by decide +kernel
theorem dL_best_556 : decode cL_best 556 = .ok (.iconst 0, 1) := by decide +kernel
theorem dL_best_557 : decode cL_best 557 = .ok (.iconst 0, 1) := by decide +kernel
theorem dL_best_558 : decode cL_best 558 = .ok (.invokestatic 190, 3) := by decide +kernel
theorem dL_best_561 : decode cL_best 561 = .ok (.invokestatic 238, 3) := by decide +kernel
theorem dL_best_564 : decode cL_best 564 = .ok (.ifCond .ne 36, 3) := by decide +kernel
theorem dL_best_567 : decode cL_best 567 = .ok (.aload_n 1, 1) := by decide +kernel
theorem dL_best_568 : decode cL_best 568 = .ok (.bipush 16, 2) := by decide +kernel
theorem dL_best_570 : decode cL_best 570 = .ok (.iconst 0, 1) := by decide +kernel
theorem dL_best_571 : decode cL_best 571 = .ok (.iconst 0, 1) := by decide +kernel
theorem dL_best_572 : decode cL_best 572 = .ok (.iconst 0, 1) := by decide +kernel
theorem dL_best_573 : decode cL_best 573 = .ok (.invokestatic 190, 3) := by decide +kernel
theorem dL_best_576 : decode cL_best 576 = .ok (.invokestatic 238, 3) := by decide +kernel
theorem dL_best_579 : decode cL_best 579 = .ok (.ifCond .ne 21, 3) := by decide +kernel
theorem dL_best_582 : decode cL_best 582 = .ok (.aload_n 0, 1) := by decide +kernel
theorem dL_best_583 : decode cL_best 583 = .ok (.bipush 8, 2) := by decide +kernel
theorem dL_best_585 : decode cL_best 585 = .ok (.iconst 0, 1) := by decide +kernel
theorem dL_best_586 : decode cL_best 586 = .ok (.iconst 0, 1) := by decide +kernel
theorem dL_best_587 : decode cL_best 587 = .ok (.iconst 0, 1) := by decide +kernel
theorem dL_best_588 : decode cL_best 588 = .ok (.invokestatic 190, 3) := by decide +kernel
theorem dL_best_591 : decode cL_best 591 = .ok (.iload 11, 2) := by decide +kernel
theorem dL_best_593 : decode cL_best 593 = .ok (.if_icmp .ne 7, 3) := by decide +kernel
theorem dL_best_596 : decode cL_best 596 = .ok (.iconst 1, 1) := by decide +kernel
theorem dL_best_597 : decode cL_best 597 = .ok (.goto 4, 3) := by decide +kernel
theorem dL_best_600 : decode cL_best 600 = .ok (.iconst 0, 1) := by decide +kernel
theorem dL_best_601 : decode cL_best 601 = .ok (.ireturn, 1) := by decide +kernel

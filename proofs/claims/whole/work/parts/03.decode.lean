theorem dX8_hoist_70 : decode cX8_hoist 70 = .ok (.getfield 70, 3) := by decide +kernel
theorem dX8_hoist_73 : decode cX8_hoist 73 = .ok (.invokevirtual 200, 3) := by decide +kernel
theorem dX8_hoist_76 : decode cX8_hoist 76 = .ok (.ireturn, 1) := by decide +kernel
theorem dX8_undo_0 : decode cX8_undo 0 = .ok (.aload_n 0, 1) := by decide +kernel
theorem dX8_undo_1 : decode cX8_undo 1 = .ok (.getfield 26, 3) := by decide +kernel
theorem dX8_undo_4 : decode cX8_undo 4 = .ok (.invokevirtual 245, 3) := by decide +kernel
theorem dX8_undo_7 : decode cX8_undo 7 = .ok (.ifCond .ne 6, 3) := by decide +kernel
theorem dX8_undo_10 : decode cX8_undo 10 = .ok (.bipush (-3), 2) := by decide +kernel
theorem dX8_undo_12 : decode cX8_undo 12 = .ok (.ireturn, 1) := by decide +kernel
theorem dX8_undo_13 : decode cX8_undo 13 = .ok (.aload_n 0, 1) := by decide +kernel
theorem dX8_undo_14 : decode cX8_undo 14 = .ok (.getfield 26, 3) := by decide +kernel
theorem dX8_undo_17 : decode cX8_undo 17 = .ok (.aload_n 0, 1) := by decide +kernel
theorem dX8_undo_18 : decode cX8_undo 18 = .ok (.getfield 10, 3) := by decide +kernel
theorem dX8_undo_21 : decode cX8_undo 21 = .ok (.invokevirtual 246, 3) := by decide +kernel
theorem dX8_undo_24 : decode cX8_undo 24 = .ok (.aload_n 0, 1) := by decide +kernel
theorem dX8_undo_25 : decode cX8_undo 25 = .ok (.getfield 26, 3) := by decide +kernel
theorem dX8_undo_28 : decode cX8_undo 28 = .ok (.invokevirtual 245, 3) := by decide +kernel
theorem dX8_undo_31 : decode cX8_undo 31 = .ok (.ireturn, 1) := by decide +kernel
theorem dX8_save_0 : decode cX8_save 0 = .ok (.aload_n 0, 1) := by decide +kernel
theorem dX8_save_1 : decode cX8_save 1 = .ok (.getfield 16, 3) := by decide +kernel
theorem dX8_save_4 : decode cX8_save 4 = .ok (.aload_n 0, 1) := by decide +kernel
theorem dX8_save_5 : decode cX8_save 5 = .ok (.getfield 10, 3) := by decide +kernel
theorem dX8_save_8 : decode cX8_save 8 = .ok (.invokevirtual 249, 3) := by decide +kernel
theorem dX8_save_11 : decode cX8_save 11 = .ok (.aload_n 0, 1) := by decide +kernel
theorem dX8_save_12 : decode cX8_save 12 = .ok (.iconst 1, 1) := by decide +kernel
theorem dX8_save_13 : decode cX8_save 13 = .ok (.putfield 19, 3) := by decide +kernel
theorem dX8_save_16 : decode cX8_save 16 = .ok (.aload_n 0, 1) := by decide +kernel
theorem dX8_save_17 : decode cX8_save 17 = .ok (.getfield 10, 3) := by decide +kernel
theorem dX8_save_20 : decode cX8_save 20 = .ok (.getfield 70, 3) := by decide +kernel
theorem dX8_save_23 : decode cX8_save 23 = .ok (.invokevirtual 200, 3) := by decide +kernel
theorem dX8_save_26 : decode cX8_save 26 = .ok (.ireturn, 1) := by decide +kernel
theorem dX8_restore_0 : decode cX8_restore 0 = .ok (.aload_n 0, 1) := by decide +kernel
theorem dX8_restore_1 : decode cX8_restore 1 = .ok (.getfield 19, 3) := by decide +kernel
theorem dX8_restore_4 : decode cX8_restore 4 = .ok (.ifCond .ne 6, 3) := by decide +kernel
theorem dX8_restore_7 : decode cX8_restore 7 = .ok (.bipush (-3), 2) := by decide +kernel
theorem dX8_restore_9 : decode cX8_restore 9 = .ok (.ireturn, 1) := by decide +kernel
theorem dX8_restore_10 : decode cX8_restore 10 = .ok (.aload_n 0, 1) := by decide +kernel
theorem dX8_restore_11 : decode cX8_restore 11 = .ok (.getfield 26, 3) := by decide +kernel
theorem dX8_restore_14 : decode cX8_restore 14 = .ok (.aload_n 0, 1) := by decide +kernel
theorem dX8_restore_15 : decode cX8_restore 15 = .ok (.getfield 10, 3) := by decide +kernel
theorem dX8_restore_18 : decode cX8_restore 18 = .ok (.invokevirtual 80, 3) := by decide +kernel
theorem dX8_restore_21 : decode cX8_restore 21 = .ok (.aload_n 0, 1) := by decide +kernel
theorem dX8_restore_22 : decode cX8_restore 22 = .ok (.getfield 10, 3) := by decide +kernel
theorem dX8_restore_25 : decode cX8_restore 25 = .ok (.aload_n 0, 1) := by decide +kernel
theorem dX8_restore_26 : decode cX8_restore 26 = .ok (.getfield 16, 3) := by decide +kernel
theorem dX8_restore_29 : decode cX8_restore 29 = .ok (.invokevirtual 249, 3) := by decide +kernel
theorem dX8_restore_32 : decode cX8_restore 32 = .ok (.aload_n 0, 1) := by decide +kernel
theorem dX8_restore_33 : decode cX8_restore 33 = .ok (.getfield 10, 3) := by decide +kernel
theorem dX8_restore_36 : decode cX8_restore 36 = .ok (.getfield 70, 3) := by decide +kernel
theorem dX8_restore_39 : decode cX8_restore 39 = .ok (.invokevirtual 200, 3) := by decide +kernel
theorem dX8_restore_42 : decode cX8_restore 42 = .ok (.ireturn, 1) := by decide +kernel
theorem dX8_recordAndBringPennantDown_0 : decode cX8_recordAndBringPennantDown 0 = .ok (.aload_n 0, 1) := by decide +kernel
theorem dX8_recordAndBringPennantDown_1 : decode cX8_recordAndBringPennantDown 1 = .ok (.getfield 26, 3) := by decide +kernel
theorem dX8_recordAndBringPennantDown_4 : decode cX8_recordAndBringPennantDown 4 = .ok (.aload_n 0, 1) := by decide +kernel
theorem dX8_recordAndBringPennantDown_5 : decode cX8_recordAndBringPennantDown 5 = .ok (.getfield 10, 3) := by decide +kernel
theorem dX8_recordAndBringPennantDown_8 : decode cX8_recordAndBringPennantDown 8 = .ok (.invokevirtual 80, 3) := by decide +kernel
theorem dX8_recordAndBringPennantDown_11 : decode cX8_recordAndBringPennantDown 11 = .ok (.aload_n 0, 1) := by decide +kernel
theorem dX8_recordAndBringPennantDown_12 : decode cX8_recordAndBringPennantDown 12 = .ok (.getfield 10, 3) := by decide +kernel
theorem dX8_recordAndBringPennantDown_15 : decode cX8_recordAndBringPennantDown 15 = .ok (.iconst 0, 1) := by decide +kernel
theorem dX8_recordAndBringPennantDown_16 : decode cX8_recordAndBringPennantDown 16 = .ok (.putfield 127, 3) := by decide +kernel
theorem dX8_recordAndBringPennantDown_19 : decode cX8_recordAndBringPennantDown 19 = .ok (.return_, 1) := by decide +kernel
theorem dX8_readingOf_0 : decode cX8_readingOf 0 = .ok (.iload_n 1, 1) := by decide +kernel
theorem dX8_readingOf_1 : decode cX8_readingOf 1 = .ok (.ifCond .ne 10, 3) := by decide +kernel
theorem dX8_readingOf_4 : decode cX8_readingOf 4 = .ok (.aload_n 0, 1) := by decide +kernel
theorem dX8_readingOf_5 : decode cX8_readingOf 5 = .ok (.getfield 42, 3) := by decide +kernel
theorem dX8_readingOf_8 : decode cX8_readingOf 8 = .ok (.goto 7, 3) := by decide +kernel
theorem dX8_readingOf_11 : decode cX8_readingOf 11 = .ok (.aload_n 0, 1) := by decide +kernel
theorem dX8_readingOf_12 : decode cX8_readingOf 12 = .ok (.getfield 46, 3) := by decide +kernel
theorem dX8_readingOf_15 : decode cX8_readingOf 15 = .ok (.areturn, 1) := by decide +kernel
theorem dX8_read_0 : decode cX8_read 0 = .ok (.aload_n 0, 1) := by decide +kernel
theorem dX8_read_1 : decode cX8_read 1 = .ok (.iload_n 1, 1) := by decide +kernel
theorem dX8_read_2 : decode cX8_read 2 = .ok (.invokevirtual 217, 3) := by decide +kernel
theorem dX8_read_5 : decode cX8_read 5 = .ok (.astore_n 2, 1) := by decide +kernel
theorem dX8_read_6 : decode cX8_read 6 = .ok (.aload_n 2, 1) := by decide +kernel
theorem dX8_read_7 : decode cX8_read 7 = .ok (.aload_n 0, 1) := by decide +kernel
theorem dX8_read_8 : decode cX8_read 8 = .ok (.getfield 10, 3) := by decide +kernel
theorem dX8_read_11 : decode cX8_read 11 = .ok (.aload_n 0, 1) := by decide +kernel
theorem dX8_read_12 : decode cX8_read 12 = .ok (.getfield 10, 3) := by decide +kernel
theorem dX8_read_15 : decode cX8_read 15 = .ok (.getfield 88, 3) := by decide +kernel
theorem dX8_read_18 : decode cX8_read 18 = .ok (.aload_n 0, 1) := by decide +kernel
theorem dX8_read_19 : decode cX8_read 19 = .ok (.getfield 10, 3) := by decide +kernel
theorem dX8_read_22 : decode cX8_read 22 = .ok (.getfield 91, 3) := by decide +kernel
theorem dX8_read_25 : decode cX8_read 25 = .ok (.invokevirtual 220, 3) := by decide +kernel
theorem dX8_read_28 : decode cX8_read 28 = .ok (.aload_n 2, 1) := by decide +kernel
theorem dX8_read_29 : decode cX8_read 29 = .ok (.areturn, 1) := by decide +kernel
theorem dX8_isKnownAsItself_0 : decode cX8_isKnownAsItself 0 = .ok (.iconst 0, 1) := by decide +kernel
theorem dX8_isKnownAsItself_1 : decode cX8_isKnownAsItself 1 = .ok (.aload_n 0, 1) := by decide +kernel
theorem dX8_isKnownAsItself_2 : decode cX8_isKnownAsItself 2 = .ok (.getfield 10, 3) := by decide +kernel
theorem dX8_isKnownAsItself_5 : decode cX8_isKnownAsItself 5 = .ok (.getfield 91, 3) := by decide +kernel
theorem dX8_isKnownAsItself_8 : decode cX8_isKnownAsItself 8 = .ok (.invokestatic 185, 3) := by decide +kernel
theorem dX8_isKnownAsItself_11 : decode cX8_isKnownAsItself 11 = .ok (.istore_n 2, 1) := by decide +kernel
theorem dX8_isKnownAsItself_12 : decode cX8_isKnownAsItself 12 = .ok (.iload_n 1, 1) := by decide +kernel
theorem dX8_isKnownAsItself_13 : decode cX8_isKnownAsItself 13 = .ok (.istore_n 3, 1) := by decide +kernel
theorem dX8_isKnownAsItself_14 : decode cX8_isKnownAsItself 14 = .ok (.iconst 0, 1) := by decide +kernel
theorem dX8_isKnownAsItself_15 : decode cX8_isKnownAsItself 15 = .ok (.istore 4, 2) := by decide +kernel
theorem dX8_isKnownAsItself_17 : decode cX8_isKnownAsItself 17 = .ok (.iload 4, 2) := by decide +kernel
theorem dX8_isKnownAsItself_19 : decode cX8_isKnownAsItself 19 = .ok (.iconst 4, 1) := by decide +kernel
theorem dX8_isKnownAsItself_20 : decode cX8_isKnownAsItself 20 = .ok (.if_icmp .ge 53, 3) := by decide +kernel
theorem dX8_isKnownAsItself_23 : decode cX8_isKnownAsItself 23 = .ok (.iload_n 3, 1) := by decide +kernel
theorem dX8_isKnownAsItself_24 : decode cX8_isKnownAsItself 24 = .ok (.bipush 10, 2) := by decide +kernel
theorem dX8_isKnownAsItself_26 : decode cX8_isKnownAsItself 26 = .ok (.if_icmp .lt 47, 3) := by decide +kernel
theorem dX8_isKnownAsItself_29 : decode cX8_isKnownAsItself 29 = .ok (.iload_n 3, 1) := by decide +kernel
theorem dX8_isKnownAsItself_30 : decode cX8_isKnownAsItself 30 = .ok (.bipush 10, 2) := by decide +kernel
theorem dX8_isKnownAsItself_32 : decode cX8_isKnownAsItself 32 = .ok (.irem, 1) := by decide +kernel
theorem dX8_isKnownAsItself_33 : decode cX8_isKnownAsItself 33 = .ok (.istore 5, 2) := by decide +kernel
theorem dX8_isKnownAsItself_35 : decode cX8_isKnownAsItself 35 = .ok (.aload_n 0, 1) := by decide +kernel
theorem dX8_isKnownAsItself_36 : decode cX8_isKnownAsItself 36 = .ok (.getfield 10, 3) := by decide +kernel
theorem dX8_isKnownAsItself_39 : decode cX8_isKnownAsItself 39 = .ok (.getfield 56, 3) := by decide +kernel
theorem dX8_isKnownAsItself_42 : decode cX8_isKnownAsItself 42 = .ok (.iload 5, 2) := by decide +kernel
theorem dX8_isKnownAsItself_44 : decode cX8_isKnownAsItself 44 = .ok (.iload_n 2, 1) := by decide +kernel
theorem dX8_isKnownAsItself_45 : decode cX8_isKnownAsItself 45 = .ok (.aload_n 0, 1) := by decide +kernel
theorem dX8_isKnownAsItself_46 : decode cX8_isKnownAsItself 46 = .ok (.getfield 10, 3) := by decide +kernel
theorem dX8_isKnownAsItself_49 : decode cX8_isKnownAsItself 49 = .ok (.getfield 88, 3) := by decide +kernel
theorem dX8_isKnownAsItself_52 : decode cX8_isKnownAsItself 52 = .ok (.invokevirtual 188, 3) := by decide +kernel
theorem dX8_isKnownAsItself_55 : decode cX8_isKnownAsItself 55 = .ok (.iload 5, 2) := by decide +kernel
theorem dX8_isKnownAsItself_57 : decode cX8_isKnownAsItself 57 = .ok (.if_icmp .eq 5, 3) := by decide +kernel
theorem dX8_isKnownAsItself_60 : decode cX8_isKnownAsItself 60 = .ok (.iconst 0, 1) := by decide +kernel
theorem dX8_isKnownAsItself_61 : decode cX8_isKnownAsItself 61 = .ok (.ireturn, 1) := by decide +kernel
theorem dX8_isKnownAsItself_62 : decode cX8_isKnownAsItself 62 = .ok (.iload_n 3, 1) := by decide +kernel
theorem dX8_isKnownAsItself_63 : decode cX8_isKnownAsItself 63 = .ok (.bipush 10, 2) := by decide +kernel
theorem dX8_isKnownAsItself_65 : decode cX8_isKnownAsItself 65 = .ok (.idiv, 1) := by decide +kernel
theorem dX8_isKnownAsItself_66 : decode cX8_isKnownAsItself 66 = .ok (.istore_n 3, 1) := by decide +kernel
theorem dX8_isKnownAsItself_67 : decode cX8_isKnownAsItself 67 = .ok (.iinc 4 1, 3) := by decide +kernel
theorem dX8_isKnownAsItself_70 : decode cX8_isKnownAsItself 70 = .ok (.goto (-53), 3) := by decide +kernel
theorem dX8_isKnownAsItself_73 : decode cX8_isKnownAsItself 73 = .ok (.iconst 1, 1) := by decide +kernel
theorem dX8_isKnownAsItself_74 : decode cX8_isKnownAsItself 74 = .ok (.ireturn, 1) := by decide +kernel
theorem dX8_isBelow_0 : decode cX8_isBelow 0 = .ok (.iload_n 0, 1) := by decide +kernel
theorem dX8_isBelow_1 : decode cX8_isBelow 1 = .ok (.ifCond .lt 12, 3) := by decide +kernel
theorem dX8_isBelow_4 : decode cX8_isBelow 4 = .ok (.iload_n 0, 1) := by decide +kernel
theorem dX8_isBelow_5 : decode cX8_isBelow 5 = .ok (.iload_n 1, 1) := by decide +kernel
theorem dX8_isBelow_6 : decode cX8_isBelow 6 = .ok (.if_icmp .ge 7, 3) := by decide +kernel
theorem dX8_isBelow_9 : decode cX8_isBelow 9 = .ok (.iconst 1, 1) := by decide +kernel
theorem dX8_isBelow_10 : decode cX8_isBelow 10 = .ok (.goto 4, 3) := by decide +kernel
theorem dX8_isBelow_13 : decode cX8_isBelow 13 = .ok (.iconst 0, 1) := by decide +kernel
theorem dX8_isBelow_14 : decode cX8_isBelow 14 = .ok (.ireturn, 1) := by decide +kernel
theorem dX8_isHoistFirst_0 : decode cX8_isHoistFirst 0 = .ok (.iload_n 0, 1) := by decide +kernel
theorem dX8_isHoistFirst_1 : decode cX8_isHoistFirst 1 = .ok (.iload_n 1, 1) := by decide +kernel
theorem dX8_isHoistFirst_2 : decode cX8_isHoistFirst 2 = .ok (.if_icmp .ne 7, 3) := by decide +kernel
theorem dX8_isHoistFirst_5 : decode cX8_isHoistFirst 5 = .ok (.iconst 1, 1) := by decide +kernel
theorem dX8_isHoistFirst_6 : decode cX8_isHoistFirst 6 = .ok (.goto 4, 3) := by decide +kernel
theorem dX8_isHoistFirst_9 : decode cX8_isHoistFirst 9 = .ok (.iconst 0, 1) := by decide +kernel
theorem dX8_isHoistFirst_10 : decode cX8_isHoistFirst 10 = .ok (.ireturn, 1) := by decide +kernel
theorem dX8_isSign_0 : decode cX8_isSign 0 = .ok (.iload_n 0, 1) := by decide +kernel
theorem dX8_isSign_1 : decode cX8_isSign 1 = .ok (.bipush 10, 2) := by decide +kernel
theorem dX8_isSign_3 : decode cX8_isSign 3 = .ok (.invokestatic 49, 3) := by decide +kernel
theorem dX8_isSign_6 : decode cX8_isSign 6 = .ok (.ifCond .ne 15, 3) := by decide +kernel
theorem dX8_isSign_9 : decode cX8_isSign 9 = .ok (.iload_n 0, 1) := by decide +kernel
theorem dX8_isSign_10 : decode cX8_isSign 10 = .ok (.bipush 10, 2) := by decide +kernel
theorem dX8_isSign_12 : decode cX8_isSign 12 = .ok (.if_icmp .le 13, 3) := by decide +kernel
theorem dX8_isSign_15 : decode cX8_isSign 15 = .ok (.iload_n 0, 1) := by decide +kernel
theorem dX8_isSign_16 : decode cX8_isSign 16 = .ok (.bipush 13, 2) := by decide +kernel
theorem dX8_isSign_18 : decode cX8_isSign 18 = .ok (.if_icmp .gt 7, 3) := by decide +kernel
theorem dX8_isSign_21 : decode cX8_isSign 21 = .ok (.iconst 1, 1) := by decide +kernel
theorem dX8_isSign_22 : decode cX8_isSign 22 = .ok (.goto 4, 3) := by decide +kernel
theorem dX8_isSign_25 : decode cX8_isSign 25 = .ok (.iconst 0, 1) := by decide +kernel
theorem dX8_isSign_26 : decode cX8_isSign 26 = .ok (.ireturn, 1) := by decide +kernel
theorem dX8_isFlagsNumber_0 : decode cX8_isFlagsNumber 0 = .ok (.bipush 10, 2) := by decide +kernel
theorem dX8_isFlagsNumber_2 : decode cX8_isFlagsNumber 2 = .ok (.istore_n 1, 1) := by decide +kernel
theorem dX8_isFlagsNumber_3 : decode cX8_isFlagsNumber 3 = .ok (.iconst 1, 1) := by decide +kernel
theorem dX8_isFlagsNumber_4 : decode cX8_isFlagsNumber 4 = .ok (.istore_n 2, 1) := by decide +kernel
theorem dX8_isFlagsNumber_5 : decode cX8_isFlagsNumber 5 = .ok (.iload_n 2, 1) := by decide +kernel
theorem dX8_isFlagsNumber_6 : decode cX8_isFlagsNumber 6 = .ok (.iconst 4, 1) := by decide +kernel
theorem dX8_isFlagsNumber_7 : decode cX8_isFlagsNumber 7 = .ok (.if_icmp .gt 28, 3) := by decide +kernel
theorem dX8_isFlagsNumber_10 : decode cX8_isFlagsNumber 10 = .ok (.iload_n 0, 1) := by decide +kernel
theorem dX8_isFlagsNumber_11 : decode cX8_isFlagsNumber 11 = .ok (.iload_n 1, 1) := by decide +kernel
theorem dX8_isFlagsNumber_12 : decode cX8_isFlagsNumber 12 = .ok (.if_icmp .lt 12, 3) := by decide +kernel
theorem dX8_isFlagsNumber_15 : decode cX8_isFlagsNumber 15 = .ok (.iload_n 0, 1) := by decide +kernel
theorem dX8_isFlagsNumber_16 : decode cX8_isFlagsNumber 16 = .ok (.iconst 2, 1) := by decide +kernel
theorem dX8_isFlagsNumber_17 : decode cX8_isFlagsNumber 17 = .ok (.iload_n 1, 1) := by decide +kernel
theorem dX8_isFlagsNumber_18 : decode cX8_isFlagsNumber 18 = .ok (.imul, 1) := by decide +kernel
theorem dX8_isFlagsNumber_19 : decode cX8_isFlagsNumber 19 = .ok (.if_icmp .ge 5, 3) := by decide +kernel
theorem dX8_isFlagsNumber_22 : decode cX8_isFlagsNumber 22 = .ok (.iconst 1, 1) := by decide +kernel
theorem dX8_isFlagsNumber_23 : decode cX8_isFlagsNumber 23 = .ok (.ireturn, 1) := by decide +kernel
theorem dX8_isFlagsNumber_24 : decode cX8_isFlagsNumber 24 = .ok (.iload_n 1, 1) := by decide +kernel
theorem dX8_isFlagsNumber_25 : decode cX8_isFlagsNumber 25 = .ok (.bipush 10, 2) := by decide +kernel
theorem dX8_isFlagsNumber_27 : decode cX8_isFlagsNumber 27 = .ok (.imul, 1) := by decide +kernel
theorem dX8_isFlagsNumber_28 : decode cX8_isFlagsNumber 28 = .ok (.istore_n 1, 1) := by decide +kernel
theorem dX8_isFlagsNumber_29 : decode cX8_isFlagsNumber 29 = .ok (.iinc 2 1, 3) := by decide +kernel
theorem dX8_isFlagsNumber_32 : decode cX8_isFlagsNumber 32 = .ok (.goto (-27), 3) := by decide +kernel
theorem dX8_isFlagsNumber_35 : decode cX8_isFlagsNumber 35 = .ok (.iconst 0, 1) := by decide +kernel
theorem dX8_isFlagsNumber_36 : decode cX8_isFlagsNumber 36 = .ok (.ireturn, 1) := by decide +kernel
theorem dX8_lengthOf_0 : decode cX8_lengthOf 0 = .ok (.iconst 0, 1) := by decide +kernel
theorem dX8_lengthOf_1 : decode cX8_lengthOf 1 = .ok (.istore_n 1, 1) := by decide +kernel
theorem dX8_lengthOf_2 : decode cX8_lengthOf 2 = .ok (.iload_n 0, 1) := by decide +kernel
theorem dX8_lengthOf_3 : decode cX8_lengthOf 3 = .ok (.istore_n 2, 1) := by decide +kernel
theorem dX8_lengthOf_4 : decode cX8_lengthOf 4 = .ok (.iload_n 1, 1) := by decide +kernel
theorem dX8_lengthOf_5 : decode cX8_lengthOf 5 = .ok (.iconst 4, 1) := by decide +kernel
theorem dX8_lengthOf_6 : decode cX8_lengthOf 6 = .ok (.if_icmp .ge 20, 3) := by decide +kernel
theorem dX8_lengthOf_9 : decode cX8_lengthOf 9 = .ok (.iload_n 2, 1) := by decide +kernel
theorem dX8_lengthOf_10 : decode cX8_lengthOf 10 = .ok (.bipush 10, 2) := by decide +kernel
theorem dX8_lengthOf_12 : decode cX8_lengthOf 12 = .ok (.if_icmp .lt 14, 3) := by decide +kernel
theorem dX8_lengthOf_15 : decode cX8_lengthOf 15 = .ok (.iload_n 2, 1) := by decide +kernel
theorem dX8_lengthOf_16 : decode cX8_lengthOf 16 = .ok (.bipush 10, 2) := by decide +kernel
theorem dX8_lengthOf_18 : decode cX8_lengthOf 18 = .ok (.idiv, 1) := by decide +kernel
theorem dX8_lengthOf_19 : decode cX8_lengthOf 19 = .ok (.istore_n 2, 1) := by decide +kernel
theorem dX8_lengthOf_20 : decode cX8_lengthOf 20 = .ok (.iinc 1 1, 3) := by decide +kernel
theorem dX8_lengthOf_23 : decode cX8_lengthOf 23 = .ok (.goto (-19), 3) := by decide +kernel
theorem dX8_lengthOf_26 : decode cX8_lengthOf 26 = .ok (.iload_n 1, 1) := by decide +kernel
theorem dX8_lengthOf_27 : decode cX8_lengthOf 27 = .ok (.ireturn, 1) := by decide +kernel
theorem dX9_init_0 : decode cX9_init 0 = .ok (.aload_n 0, 1) := by decide +kernel
theorem dX9_init_1 : decode cX9_init 1 = .ok (.invokespecial 1, 3) := by decide +kernel
theorem dX9_init_4 : decode cX9_init 4 = .ok (.aload_n 0, 1) := by decide +kernel
theorem dX9_init_5 : decode cX9_init 5 = .ok (.sipush 136, 3) := by decide +kernel
theorem dX9_init_8 : decode cX9_init 8 = .ok (.newarray .int, 2) := by decide +kernel
theorem dX9_init_10 : decode cX9_init 10 = .ok (.putfield 7, 3) := by decide +kernel
theorem dX9_init_13 : decode cX9_init 13 = .ok (.aload_n 0, 1) := by decide +kernel
theorem dX9_init_14 : decode cX9_init 14 = .ok (.sipush 680, 3) := by decide +kernel
theorem dX9_init_17 : decode cX9_init 17 = .ok (.newarray .int, 2) := by decide +kernel
theorem dX9_init_19 : decode cX9_init 19 = .ok (.putfield 13, 3) := by decide +kernel
theorem dX9_init_22 : decode cX9_init 22 = .ok (.aload_n 0, 1) := by decide +kernel
theorem dX9_init_23 : decode cX9_init 23 = .ok (.sipush 136, 3) := by decide +kernel
theorem dX9_init_26 : decode cX9_init 26 = .ok (.newarray .int, 2) := by decide +kernel
theorem dX9_init_28 : decode cX9_init 28 = .ok (.putfield 16, 3) := by decide +kernel
theorem dX9_init_31 : decode cX9_init 31 = .ok (.aload_n 0, 1) := by decide +kernel
theorem dX9_init_32 : decode cX9_init 32 = .ok (.bipush 50, 2) := by decide +kernel
theorem dX9_init_34 : decode cX9_init 34 = .ok (.newarray .char, 2) := by decide +kernel
theorem dX9_init_36 : decode cX9_init 36 = .ok (.putfield 19, 3) := by decide +kernel
theorem dX9_init_39 : decode cX9_init 39 = .ok (.aload_n 0, 1) := by decide +kernel
theorem dX9_init_40 : decode cX9_init 40 = .ok (.bipush 25, 2) := by decide +kernel
theorem dX9_init_42 : decode cX9_init 42 = .ok (.newarray .int, 2) := by decide +kernel
theorem dX9_init_44 : decode cX9_init 44 = .ok (.putfield 23, 3) := by decide +kernel
theorem dX9_init_47 : decode cX9_init 47 = .ok (.aload_n 0, 1) := by decide +kernel
theorem dX9_init_48 : decode cX9_init 48 = .ok (.getfield 7, 3) := by decide +kernel
theorem dX9_init_51 : decode cX9_init 51 = .ok (.iconst 0, 1) := by decide +kernel
theorem dX9_init_52 : decode cX9_init 52 = .ok (.iconst 1, 1) := by decide +kernel
theorem dX9_init_53 : decode cX9_init 53 = .ok (.iastore, 1) := by decide +kernel
theorem dX9_init_54 : decode cX9_init 54 = .ok (.aload_n 0, 1) := by decide +kernel
theorem dX9_init_55 : decode cX9_init 55 = .ok (.getfield 7, 3) := by decide +kernel
theorem dX9_init_58 : decode cX9_init 58 = .ok (.iconst 1, 1) := by decide +kernel
theorem dX9_init_59 : decode cX9_init 59 = .ok (.iconst 5, 1) := by decide +kernel
theorem dX9_init_60 : decode cX9_init 60 = .ok (.iastore, 1) := by decide +kernel
theorem dX9_init_61 : decode cX9_init 61 = .ok (.iconst 0, 1) := by decide +kernel
theorem dX9_init_62 : decode cX9_init 62 = .ok (.istore_n 1, 1) := by decide +kernel
theorem dX9_init_63 : decode cX9_init 63 = .ok (.iload_n 1, 1) := by decide +kernel
theorem dX9_init_64 : decode cX9_init 64 = .ok (.bipush 10, 2) := by decide +kernel
theorem dX9_init_66 : decode cX9_init 66 = .ok (.if_icmp .ge 61, 3) := by decide +kernel
theorem dX9_init_69 : decode cX9_init 69 = .ok (.aload_n 0, 1) := by decide +kernel
theorem dX9_init_70 : decode cX9_init 70 = .ok (.getfield 7, 3) := by decide +kernel
theorem dX9_init_73 : decode cX9_init 73 = .ok (.bipush 8, 2) := by decide +kernel
theorem dX9_init_75 : decode cX9_init 75 = .ok (.iconst 3, 1) := by decide +kernel
theorem dX9_init_76 : decode cX9_init 76 = .ok (.iload_n 1, 1) := by decide +kernel
theorem dX9_init_77 : decode cX9_init 77 = .ok (.imul, 1) := by decide +kernel
theorem dX9_init_78 : decode cX9_init 78 = .ok (.iadd, 1) := by decide +kernel
theorem dX9_init_79 : decode cX9_init 79 = .ok (.iload_n 1, 1) := by decide +kernel
theorem dX9_init_80 : decode cX9_init 80 = .ok (.bipush 8, 2) := by decide +kernel
theorem dX9_init_82 : decode cX9_init 82 = .ok (.irem, 1) := by decide +kernel
theorem dX9_init_83 : decode cX9_init 83 = .ok (.iastore, 1) := by decide +kernel
theorem dX9_init_84 : decode cX9_init 84 = .ok (.aload_n 0, 1) := by decide +kernel
theorem dX9_init_85 : decode cX9_init 85 = .ok (.getfield 7, 3) := by decide +kernel
theorem dX9_init_88 : decode cX9_init 88 = .ok (.bipush 8, 2) := by decide +kernel
theorem dX9_init_90 : decode cX9_init 90 = .ok (.iconst 3, 1) := by decide +kernel
theorem dX9_init_91 : decode cX9_init 91 = .ok (.iload_n 1, 1) := by decide +kernel
theorem dX9_init_92 : decode cX9_init 92 = .ok (.imul, 1) := by decide +kernel
theorem dX9_init_93 : decode cX9_init 93 = .ok (.iadd, 1) := by decide +kernel
theorem dX9_init_94 : decode cX9_init 94 = .ok (.iconst 1, 1) := by decide +kernel
theorem dX9_init_95 : decode cX9_init 95 = .ok (.iadd, 1) := by decide +kernel
theorem dX9_init_96 : decode cX9_init 96 = .ok (.iconst 3, 1) := by decide +kernel
theorem dX9_init_97 : decode cX9_init 97 = .ok (.iload_n 1, 1) := by decide +kernel
theorem dX9_init_98 : decode cX9_init 98 = .ok (.imul, 1) := by decide +kernel
theorem dX9_init_99 : decode cX9_init 99 = .ok (.iconst 1, 1) := by decide +kernel
theorem dX9_init_100 : decode cX9_init 100 = .ok (.iadd, 1) := by decide +kernel
theorem dX9_init_101 : decode cX9_init 101 = .ok (.bipush 8, 2) := by decide +kernel
theorem dX9_init_103 : decode cX9_init 103 = .ok (.irem, 1) := by decide +kernel
theorem dX9_init_104 : decode cX9_init 104 = .ok (.iastore, 1) := by decide +kernel
theorem dX9_init_105 : decode cX9_init 105 = .ok (.aload_n 0, 1) := by decide +kernel
theorem dX9_init_106 : decode cX9_init 106 = .ok (.getfield 7, 3) := by decide +kernel
theorem dX9_init_109 : decode cX9_init 109 = .ok (.bipush 8, 2) := by decide +kernel
theorem dX9_init_111 : decode cX9_init 111 = .ok (.iconst 3, 1) := by decide +kernel
theorem dX9_init_112 : decode cX9_init 112 = .ok (.iload_n 1, 1) := by decide +kernel
theorem dX9_init_113 : decode cX9_init 113 = .ok (.imul, 1) := by decide +kernel
theorem dX9_init_114 : decode cX9_init 114 = .ok (.iadd, 1) := by decide +kernel
theorem dX9_init_115 : decode cX9_init 115 = .ok (.iconst 2, 1) := by decide +kernel
theorem dX9_init_116 : decode cX9_init 116 = .ok (.iadd, 1) := by decide +kernel
theorem dX9_init_117 : decode cX9_init 117 = .ok (.iload_n 1, 1) := by decide +kernel
theorem dX9_init_118 : decode cX9_init 118 = .ok (.iconst 2, 1) := by decide +kernel
theorem dX9_init_119 : decode cX9_init 119 = .ok (.idiv, 1) := by decide +kernel
theorem dX9_init_120 : decode cX9_init 120 = .ok (.iastore, 1) := by decide +kernel
theorem dX9_init_121 : decode cX9_init 121 = .ok (.iinc 1 1, 3) := by decide +kernel
theorem dX9_init_124 : decode cX9_init 124 = .ok (.goto (-61), 3) := by decide +kernel
theorem dX9_init_127 : decode cX9_init 127 = .ok (.return_, 1) := by decide +kernel
theorem dX9_in_0 : decode cX9_in 0 = .ok (.iload_n 0, 1) := by decide +kernel
theorem dX9_in_1 : decode cX9_in 1 = .ok (.iload_n 1, 1) := by decide +kernel
theorem dX9_in_2 : decode cX9_in 2 = .ok (.if_icmp .lt 12, 3) := by decide +kernel
theorem dX9_in_5 : decode cX9_in 5 = .ok (.iload_n 0, 1) := by decide +kernel
theorem dX9_in_6 : decode cX9_in 6 = .ok (.iload_n 2, 1) := by decide +kernel
theorem dX9_in_7 : decode cX9_in 7 = .ok (.if_icmp .gt 7, 3) := by decide +kernel
theorem dX9_in_10 : decode cX9_in 10 = .ok (.iconst 1, 1) := by decide +kernel
theorem dX9_in_11 : decode cX9_in 11 = .ok (.goto 4, 3) := by decide +kernel
theorem dX9_in_14 : decode cX9_in 14 = .ok (.iconst 0, 1) := by decide +kernel
theorem dX9_in_15 : decode cX9_in 15 = .ok (.ireturn, 1) := by decide +kernel
theorem dX9_isFlag_0 : decode cX9_isFlag 0 = .ok (.iload_n 0, 1) := by decide +kernel
theorem dX9_isFlag_1 : decode cX9_isFlag 1 = .ok (.iconst 0, 1) := by decide +kernel
theorem dX9_isFlag_2 : decode cX9_isFlag 2 = .ok (.bipush 9, 2) := by decide +kernel
theorem dX9_isFlag_4 : decode cX9_isFlag 4 = .ok (.invokestatic 26, 3) := by decide +kernel
theorem dX9_isFlag_7 : decode cX9_isFlag 7 = .ok (.ireturn, 1) := by decide +kernel
theorem dX9_isHalyard_0 : decode cX9_isHalyard 0 = .ok (.iload_n 0, 1) := by decide +kernel
theorem dX9_isHalyard_1 : decode cX9_isHalyard 1 = .ok (.iconst 0, 1) := by decide +kernel
theorem dX9_isHalyard_2 : decode cX9_isHalyard 2 = .ok (.iconst 4, 1) := by decide +kernel
theorem dX9_isHalyard_3 : decode cX9_isHalyard 3 = .ok (.invokestatic 26, 3) := by decide +kernel
theorem dX9_isHalyard_6 : decode cX9_isHalyard 6 = .ok (.ireturn, 1) := by decide +kernel
theorem dX9_isSide_0 : decode cX9_isSide 0 = .ok (.iload_n 0, 1) := by decide +kernel
theorem dX9_isSide_1 : decode cX9_isSide 1 = .ok (.iconst 0, 1) := by decide +kernel
theorem dX9_isSide_2 : decode cX9_isSide 2 = .ok (.iconst 1, 1) := by decide +kernel
theorem dX9_isSide_3 : decode cX9_isSide 3 = .ok (.invokestatic 26, 3) := by decide +kernel
theorem dX9_isSide_6 : decode cX9_isSide 6 = .ok (.ireturn, 1) := by decide +kernel
theorem dX9_ofFlag_0 : decode cX9_ofFlag 0 = .ok (.aload_n 0, 1) := by decide +kernel
theorem dX9_ofFlag_1 : decode cX9_ofFlag 1 = .ok (.getfield 7, 3) := by decide +kernel
theorem dX9_ofFlag_4 : decode cX9_ofFlag 4 = .ok (.bipush 8, 2) := by decide +kernel
theorem dX9_ofFlag_6 : decode cX9_ofFlag 6 = .ok (.iconst 3, 1) := by decide +kernel
theorem dX9_ofFlag_7 : decode cX9_ofFlag 7 = .ok (.iload_n 1, 1) := by decide +kernel
theorem dX9_ofFlag_8 : decode cX9_ofFlag 8 = .ok (.imul, 1) := by decide +kernel
theorem dX9_ofFlag_9 : decode cX9_ofFlag 9 = .ok (.iadd, 1) := by decide +kernel
theorem dX9_ofFlag_10 : decode cX9_ofFlag 10 = .ok (.iload_n 2, 1) := by decide +kernel
theorem dX9_ofFlag_11 : decode cX9_ofFlag 11 = .ok (.iadd, 1) := by decide +kernel
theorem dX9_ofFlag_12 : decode cX9_ofFlag 12 = .ok (.iaload, 1) := by decide +kernel
theorem dX9_ofFlag_13 : decode cX9_ofFlag 13 = .ok (.ireturn, 1) := by decide +kernel
theorem dX9_many_0 : decode cX9_many 0 = .ok (.aload_n 0, 1) := by decide +kernel
theorem dX9_many_1 : decode cX9_many 1 = .ok (.getfield 7, 3) := by decide +kernel
theorem dX9_many_4 : decode cX9_many 4 = .ok (.bipush 38, 2) := by decide +kernel
theorem dX9_many_6 : decode cX9_many 6 = .ok (.iconst 5, 1) := by decide +kernel
theorem dX9_many_7 : decode cX9_many 7 = .ok (.iload_n 1, 1) := by decide +kernel
theorem dX9_many_8 : decode cX9_many 8 = .ok (.imul, 1) := by decide +kernel
theorem dX9_many_9 : decode cX9_many 9 = .ok (.iadd, 1) := by decide +kernel
theorem dX9_many_10 : decode cX9_many 10 = .ok (.iaload, 1) := by decide +kernel
theorem dX9_many_11 : decode cX9_many 11 = .ok (.ireturn, 1) := by decide +kernel
theorem dX9_signOn_0 : decode cX9_signOn 0 = .ok (.aload_n 0, 1) := by decide +kernel
theorem dX9_signOn_1 : decode cX9_signOn 1 = .ok (.getfield 7, 3) := by decide +kernel
theorem dX9_signOn_4 : decode cX9_signOn 4 = .ok (.bipush 38, 2) := by decide +kernel
theorem dX9_signOn_6 : decode cX9_signOn 6 = .ok (.iconst 5, 1) := by decide +kernel
theorem dX9_signOn_7 : decode cX9_signOn 7 = .ok (.iload_n 1, 1) := by decide +kernel
theorem dX9_signOn_8 : decode cX9_signOn 8 = .ok (.imul, 1) := by decide +kernel
theorem dX9_signOn_9 : decode cX9_signOn 9 = .ok (.iadd, 1) := by decide +kernel
theorem dX9_signOn_10 : decode cX9_signOn 10 = .ok (.iload_n 2, 1) := by decide +kernel
theorem dX9_signOn_11 : decode cX9_signOn 11 = .ok (.iadd, 1) := by decide +kernel
theorem dX9_signOn_12 : decode cX9_signOn 12 = .ok (.iaload, 1) := by decide +kernel
theorem dX9_signOn_13 : decode cX9_signOn 13 = .ok (.ireturn, 1) := by decide +kernel
theorem dX9_record_0 : decode cX9_record 0 = .ok (.aload_n 0, 1) := by decide +kernel
theorem dX9_record_1 : decode cX9_record 1 = .ok (.getfield 30, 3) := by decide +kernel
theorem dX9_record_4 : decode cX9_record 4 = .ok (.iconst 5, 1) := by decide +kernel
theorem dX9_record_5 : decode cX9_record 5 = .ok (.if_icmp .ne 44, 3) := by decide +kernel
theorem dX9_record_8 : decode cX9_record 8 = .ok (.iconst 0, 1) := by decide +kernel
theorem dX9_record_9 : decode cX9_record 9 = .ok (.istore_n 1, 1) := by decide +kernel
theorem dX9_record_10 : decode cX9_record 10 = .ok (.iload_n 1, 1) := by decide +kernel
theorem dX9_record_11 : decode cX9_record 11 = .ok (.sipush 544, 3) := by decide +kernel
theorem dX9_record_14 : decode cX9_record 14 = .ok (.if_icmp .ge 25, 3) := by decide +kernel
theorem dX9_record_17 : decode cX9_record 17 = .ok (.aload_n 0, 1) := by decide +kernel
theorem dX9_record_18 : decode cX9_record 18 = .ok (.getfield 13, 3) := by decide +kernel
theorem dX9_record_21 : decode cX9_record 21 = .ok (.iload_n 1, 1) := by decide +kernel
theorem dX9_record_22 : decode cX9_record 22 = .ok (.aload_n 0, 1) := by decide +kernel
theorem dX9_record_23 : decode cX9_record 23 = .ok (.getfield 13, 3) := by decide +kernel
theorem dX9_record_26 : decode cX9_record 26 = .ok (.iload_n 1, 1) := by decide +kernel
theorem dX9_record_27 : decode cX9_record 27 = .ok (.sipush 136, 3) := by decide +kernel
theorem dX9_record_30 : decode cX9_record 30 = .ok (.iadd, 1) := by decide +kernel
theorem dX9_record_31 : decode cX9_record 31 = .ok (.iaload, 1) := by decide +kernel
theorem dX9_record_32 : decode cX9_record 32 = .ok (.iastore, 1) := by decide +kernel
theorem dX9_record_33 : decode cX9_record 33 = .ok (.iinc 1 1, 3) := by decide +kernel
theorem dX9_record_36 : decode cX9_record 36 = .ok (.goto (-26), 3) := by decide +kernel
theorem dX9_record_39 : decode cX9_record 39 = .ok (.aload_n 0, 1) := by decide +kernel
theorem dX9_record_40 : decode cX9_record 40 = .ok (.dup, 1) := by decide +kernel
theorem dX9_record_41 : decode cX9_record 41 = .ok (.getfield 30, 3) := by decide +kernel
theorem dX9_record_44 : decode cX9_record 44 = .ok (.iconst 1, 1) := by decide +kernel
theorem dX9_record_45 : decode cX9_record 45 = .ok (.isub, 1) := by decide +kernel
theorem dX9_record_46 : decode cX9_record 46 = .ok (.putfield 30, 3) := by decide +kernel
theorem dX9_record_49 : decode cX9_record 49 = .ok (.iconst 0, 1) := by decide +kernel
theorem dX9_record_50 : decode cX9_record 50 = .ok (.istore_n 1, 1) := by decide +kernel
theorem dX9_record_51 : decode cX9_record 51 = .ok (.iload_n 1, 1) := by decide +kernel
theorem dX9_record_52 : decode cX9_record 52 = .ok (.sipush 136, 3) := by decide +kernel
theorem dX9_record_55 : decode cX9_record 55 = .ok (.if_icmp .ge 30, 3) := by decide +kernel
theorem dX9_record_58 : decode cX9_record 58 = .ok (.aload_n 0, 1) := by decide +kernel
theorem dX9_record_59 : decode cX9_record 59 = .ok (.getfield 13, 3) := by decide +kernel
theorem dX9_record_62 : decode cX9_record 62 = .ok (.aload_n 0, 1) := by decide +kernel
theorem dX9_record_63 : decode cX9_record 63 = .ok (.getfield 30, 3) := by decide +kernel
theorem dX9_record_66 : decode cX9_record 66 = .ok (.sipush 136, 3) := by decide +kernel
theorem dX9_record_69 : decode cX9_record 69 = .ok (.imul, 1) := by decide +kernel
theorem dX9_record_70 : decode cX9_record 70 = .ok (.iload_n 1, 1) := by decide +kernel
theorem dX9_record_71 : decode cX9_record 71 = .ok (.iadd, 1) := by decide +kernel
theorem dX9_record_72 : decode cX9_record 72 = .ok (.aload_n 0, 1) := by decide +kernel
theorem dX9_record_73 : decode cX9_record 73 = .ok (.getfield 7, 3) := by decide +kernel
theorem dX9_record_76 : decode cX9_record 76 = .ok (.iload_n 1, 1) := by decide +kernel
theorem dX9_record_77 : decode cX9_record 77 = .ok (.iaload, 1) := by decide +kernel
theorem dX9_record_78 : decode cX9_record 78 = .ok (.iastore, 1) := by decide +kernel
theorem dX9_record_79 : decode cX9_record 79 = .ok (.iinc 1 1, 3) := by decide +kernel
theorem dX9_record_82 : decode cX9_record 82 = .ok (.goto (-31), 3) := by decide +kernel
theorem dX9_record_85 : decode cX9_record 85 = .ok (.aload_n 0, 1) := by decide +kernel
theorem dX9_record_86 : decode cX9_record 86 = .ok (.dup, 1) := by decide +kernel
theorem dX9_record_87 : decode cX9_record 87 = .ok (.getfield 30, 3) := by decide +kernel
theorem dX9_record_90 : decode cX9_record 90 = .ok (.iconst 1, 1) := by decide +kernel
theorem dX9_record_91 : decode cX9_record 91 = .ok (.iadd, 1) := by decide +kernel
theorem dX9_record_92 : decode cX9_record 92 = .ok (.putfield 30, 3) := by decide +kernel
theorem dX9_record_95 : decode cX9_record 95 = .ok (.return_, 1) := by decide +kernel
theorem dX9_recordAndDown_0 : decode cX9_recordAndDown 0 = .ok (.aload_n 0, 1) := by decide +kernel
theorem dX9_recordAndDown_1 : decode cX9_recordAndDown 1 = .ok (.invokevirtual 34, 3) := by decide +kernel
theorem dX9_recordAndDown_4 : decode cX9_recordAndDown 4 = .ok (.aload_n 0, 1) := by decide +kernel
theorem dX9_recordAndDown_5 : decode cX9_recordAndDown 5 = .ok (.getfield 7, 3) := by decide +kernel
theorem dX9_recordAndDown_8 : decode cX9_recordAndDown 8 = .ok (.iconst 4, 1) := by decide +kernel
theorem dX9_recordAndDown_9 : decode cX9_recordAndDown 9 = .ok (.iconst 0, 1) := by decide +kernel
theorem dX9_recordAndDown_10 : decode cX9_recordAndDown 10 = .ok (.iastore, 1) := by decide +kernel
theorem dX9_recordAndDown_11 : decode cX9_recordAndDown 11 = .ok (.return_, 1) := by decide +kernel
theorem dX9_undo_0 : decode cX9_undo 0 = .ok (.aload_n 0, 1) := by decide +kernel
theorem dX9_undo_1 : decode cX9_undo 1 = .ok (.getfield 30, 3) := by decide +kernel
theorem dX9_undo_4 : decode cX9_undo 4 = .ok (.ifCond .ne 6, 3) := by decide +kernel
theorem dX9_undo_7 : decode cX9_undo 7 = .ok (.bipush (-3), 2) := by decide +kernel
theorem dX9_undo_9 : decode cX9_undo 9 = .ok (.ireturn, 1) := by decide +kernel
theorem dX9_undo_10 : decode cX9_undo 10 = .ok (.aload_n 0, 1) := by decide +kernel
theorem dX9_undo_11 : decode cX9_undo 11 = .ok (.dup, 1) := by decide +kernel
theorem dX9_undo_12 : decode cX9_undo 12 = .ok (.getfield 30, 3) := by decide +kernel
theorem dX9_undo_15 : decode cX9_undo 15 = .ok (.iconst 1, 1) := by decide +kernel
theorem dX9_undo_16 : decode cX9_undo 16 = .ok (.isub, 1) := by decide +kernel
theorem dX9_undo_17 : decode cX9_undo 17 = .ok (.putfield 30, 3) := by decide +kernel
theorem dX9_undo_20 : decode cX9_undo 20 = .ok (.iconst 0, 1) := by decide +kernel
theorem dX9_undo_21 : decode cX9_undo 21 = .ok (.istore_n 1, 1) := by decide +kernel
theorem dX9_undo_22 : decode cX9_undo 22 = .ok (.iload_n 1, 1) := by decide +kernel
theorem dX9_undo_23 : decode cX9_undo 23 = .ok (.sipush 136, 3) := by decide +kernel
theorem dX9_undo_26 : decode cX9_undo 26 = .ok (.if_icmp .ge 30, 3) := by decide +kernel
theorem dX9_undo_29 : decode cX9_undo 29 = .ok (.aload_n 0, 1) := by decide +kernel
theorem dX9_undo_30 : decode cX9_undo 30 = .ok (.getfield 7, 3) := by decide +kernel
theorem dX9_undo_33 : decode cX9_undo 33 = .ok (.iload_n 1, 1) := by decide +kernel
theorem dX9_undo_34 : decode cX9_undo 34 = .ok (.aload_n 0, 1) := by decide +kernel
theorem dX9_undo_35 : decode cX9_undo 35 = .ok (.getfield 13, 3) := by decide +kernel
theorem dX9_undo_38 : decode cX9_undo 38 = .ok (.aload_n 0, 1) := by decide +kernel
theorem dX9_undo_39 : decode cX9_undo 39 = .ok (.getfield 30, 3) := by decide +kernel
theorem dX9_undo_42 : decode cX9_undo 42 = .ok (.sipush 136, 3) := by decide +kernel
theorem dX9_undo_45 : decode cX9_undo 45 = .ok (.imul, 1) := by decide +kernel
theorem dX9_undo_46 : decode cX9_undo 46 = .ok (.iload_n 1, 1) := by decide +kernel
theorem dX9_undo_47 : decode cX9_undo 47 = .ok (.iadd, 1) := by decide +kernel
theorem dX9_undo_48 : decode cX9_undo 48 = .ok (.iaload, 1) := by decide +kernel
theorem dX9_undo_49 : decode cX9_undo 49 = .ok (.iastore, 1) := by decide +kernel
theorem dX9_undo_50 : decode cX9_undo 50 = .ok (.iinc 1 1, 3) := by decide +kernel
theorem dX9_undo_53 : decode cX9_undo 53 = .ok (.goto (-31), 3) := by decide +kernel
theorem dX9_undo_56 : decode cX9_undo 56 = .ok (.aload_n 0, 1) := by decide +kernel
theorem dX9_undo_57 : decode cX9_undo 57 = .ok (.getfield 30, 3) := by decide +kernel
theorem dX9_undo_60 : decode cX9_undo 60 = .ok (.ireturn, 1) := by decide +kernel
theorem dX9_allSigns_0 : decode cX9_allSigns 0 = .ok (.iconst 0, 1) := by decide +kernel
theorem dX9_allSigns_1 : decode cX9_allSigns 1 = .ok (.istore_n 1, 1) := by decide +kernel
theorem dX9_allSigns_2 : decode cX9_allSigns 2 = .ok (.iconst 0, 1) := by decide +kernel
theorem dX9_allSigns_3 : decode cX9_allSigns 3 = .ok (.istore_n 2, 1) := by decide +kernel
theorem dX9_allSigns_4 : decode cX9_allSigns 4 = .ok (.iload_n 2, 1) := by decide +kernel
theorem dX9_allSigns_5 : decode cX9_allSigns 5 = .ok (.iconst 5, 1) := by decide +kernel
theorem dX9_allSigns_6 : decode cX9_allSigns 6 = .ok (.if_icmp .ge 17, 3) := by decide +kernel
theorem dX9_allSigns_9 : decode cX9_allSigns 9 = .ok (.iload_n 1, 1) := by decide +kernel
theorem dX9_allSigns_10 : decode cX9_allSigns 10 = .ok (.aload_n 0, 1) := by decide +kernel
theorem dX9_allSigns_11 : decode cX9_allSigns 11 = .ok (.iload_n 2, 1) := by decide +kernel
theorem dX9_allSigns_12 : decode cX9_allSigns 12 = .ok (.invokevirtual 37, 3) := by decide +kernel
theorem dX9_allSigns_15 : decode cX9_allSigns 15 = .ok (.iadd, 1) := by decide +kernel
theorem dX9_allSigns_16 : decode cX9_allSigns 16 = .ok (.istore_n 1, 1) := by decide +kernel
theorem dX9_allSigns_17 : decode cX9_allSigns 17 = .ok (.iinc 2 1, 3) := by decide +kernel
theorem dX9_allSigns_20 : decode cX9_allSigns 20 = .ok (.goto (-16), 3) := by decide +kernel
theorem dX9_allSigns_23 : decode cX9_allSigns 23 = .ok (.iload_n 1, 1) := by decide +kernel
theorem dX9_allSigns_24 : decode cX9_allSigns 24 = .ok (.ireturn, 1) := by decide +kernel
theorem dX9_save_0 : decode cX9_save 0 = .ok (.aload_n 0, 1) := by decide +kernel
theorem dX9_save_1 : decode cX9_save 1 = .ok (.iconst 1, 1) := by decide +kernel
theorem dX9_save_2 : decode cX9_save 2 = .ok (.putfield 41, 3) := by decide +kernel
theorem dX9_save_5 : decode cX9_save 5 = .ok (.iconst 0, 1) := by decide +kernel
theorem dX9_save_6 : decode cX9_save 6 = .ok (.istore_n 1, 1) := by decide +kernel
theorem dX9_save_7 : decode cX9_save 7 = .ok (.iload_n 1, 1) := by decide +kernel
theorem dX9_save_8 : decode cX9_save 8 = .ok (.sipush 136, 3) := by decide +kernel
theorem dX9_save_11 : decode cX9_save 11 = .ok (.if_icmp .ge 21, 3) := by decide +kernel
theorem dX9_save_14 : decode cX9_save 14 = .ok (.aload_n 0, 1) := by decide +kernel
theorem dX9_save_15 : decode cX9_save 15 = .ok (.getfield 16, 3) := by decide +kernel
theorem dX9_save_18 : decode cX9_save 18 = .ok (.iload_n 1, 1) := by decide +kernel
theorem dX9_save_19 : decode cX9_save 19 = .ok (.aload_n 0, 1) := by decide +kernel
theorem dX9_save_20 : decode cX9_save 20 = .ok (.getfield 7, 3) := by decide +kernel
theorem dX9_save_23 : decode cX9_save 23 = .ok (.iload_n 1, 1) := by decide +kernel
theorem dX9_save_24 : decode cX9_save 24 = .ok (.iaload, 1) := by decide +kernel
theorem dX9_save_25 : decode cX9_save 25 = .ok (.iastore, 1) := by decide +kernel
theorem dX9_save_26 : decode cX9_save 26 = .ok (.iinc 1 1, 3) := by decide +kernel
theorem dX9_save_29 : decode cX9_save 29 = .ok (.goto (-22), 3) := by decide +kernel
theorem dX9_save_32 : decode cX9_save 32 = .ok (.aload_n 0, 1) := by decide +kernel
theorem dX9_save_33 : decode cX9_save 33 = .ok (.invokevirtual 45, 3) := by decide +kernel
theorem dX9_save_36 : decode cX9_save 36 = .ok (.ireturn, 1) := by decide +kernel
theorem dX9_restore_0 : decode cX9_restore 0 = .ok (.aload_n 0, 1) := by decide +kernel
theorem dX9_restore_1 : decode cX9_restore 1 = .ok (.getfield 41, 3) := by decide +kernel
theorem dX9_restore_4 : decode cX9_restore 4 = .ok (.ifCond .ne 6, 3) := by decide +kernel
theorem dX9_restore_7 : decode cX9_restore 7 = .ok (.bipush (-3), 2) := by decide +kernel
theorem dX9_restore_9 : decode cX9_restore 9 = .ok (.ireturn, 1) := by decide +kernel
theorem dX9_restore_10 : decode cX9_restore 10 = .ok (.aload_n 0, 1) := by decide +kernel
theorem dX9_restore_11 : decode cX9_restore 11 = .ok (.invokevirtual 34, 3) := by decide +kernel
theorem dX9_restore_14 : decode cX9_restore 14 = .ok (.iconst 0, 1) := by decide +kernel
theorem dX9_restore_15 : decode cX9_restore 15 = .ok (.istore_n 1, 1) := by decide +kernel
theorem dX9_restore_16 : decode cX9_restore 16 = .ok (.iload_n 1, 1) := by decide +kernel
theorem dX9_restore_17 : decode cX9_restore 17 = .ok (.sipush 136, 3) := by decide +kernel
theorem dX9_restore_20 : decode cX9_restore 20 = .ok (.if_icmp .ge 21, 3) := by decide +kernel
theorem dX9_restore_23 : decode cX9_restore 23 = .ok (.aload_n 0, 1) := by decide +kernel
theorem dX9_restore_24 : decode cX9_restore 24 = .ok (.getfield 7, 3) := by decide +kernel
theorem dX9_restore_27 : decode cX9_restore 27 = .ok (.iload_n 1, 1) := by decide +kernel
theorem dX9_restore_28 : decode cX9_restore 28 = .ok (.aload_n 0, 1) := by decide +kernel
theorem dX9_restore_29 : decode cX9_restore 29 = .ok (.getfield 16, 3) := by decide +kernel
theorem dX9_restore_32 : decode cX9_restore 32 = .ok (.iload_n 1, 1) := by decide +kernel
theorem dX9_restore_33 : decode cX9_restore 33 = .ok (.iaload, 1) := by decide +kernel
theorem dX9_restore_34 : decode cX9_restore 34 = .ok (.iastore, 1) := by decide +kernel
theorem dX9_restore_35 : decode cX9_restore 35 = .ok (.iinc 1 1, 3) := by decide +kernel
theorem dX9_restore_38 : decode cX9_restore 38 = .ok (.goto (-22), 3) := by decide +kernel
theorem dX9_restore_41 : decode cX9_restore 41 = .ok (.aload_n 0, 1) := by decide +kernel
theorem dX9_restore_42 : decode cX9_restore 42 = .ok (.invokevirtual 45, 3) := by decide +kernel
theorem dX9_restore_45 : decode cX9_restore 45 = .ok (.ireturn, 1) := by decide +kernel
theorem dX9_flagWith_0 : decode cX9_flagWith 0 = .ok (.bipush (-6), 2) := by decide +kernel
theorem dX9_flagWith_2 : decode cX9_flagWith 2 = .ok (.istore_n 3, 1) := by decide +kernel
theorem dX9_flagWith_3 : decode cX9_flagWith 3 = .ok (.bipush 9, 2) := by decide +kernel
theorem dX9_flagWith_5 : decode cX9_flagWith 5 = .ok (.istore 4, 2) := by decide +kernel
theorem dX9_flagWith_7 : decode cX9_flagWith 7 = .ok (.iload 4, 2) := by decide +kernel
theorem dX9_flagWith_9 : decode cX9_flagWith 9 = .ok (.ifCond .lt 38, 3) := by decide +kernel
theorem dX9_flagWith_12 : decode cX9_flagWith 12 = .ok (.aload_n 0, 1) := by decide +kernel
theorem dX9_flagWith_13 : decode cX9_flagWith 13 = .ok (.iload 4, 2) := by decide +kernel
theorem dX9_flagWith_15 : decode cX9_flagWith 15 = .ok (.iconst 0, 1) := by decide +kernel
theorem dX9_flagWith_16 : decode cX9_flagWith 16 = .ok (.invokevirtual 49, 3) := by decide +kernel
theorem dX9_flagWith_19 : decode cX9_flagWith 19 = .ok (.iload_n 1, 1) := by decide +kernel
theorem dX9_flagWith_20 : decode cX9_flagWith 20 = .ok (.if_icmp .ne 19, 3) := by decide +kernel
theorem dX9_flagWith_23 : decode cX9_flagWith 23 = .ok (.aload_n 0, 1) := by decide +kernel
theorem dX9_flagWith_24 : decode cX9_flagWith 24 = .ok (.iload 4, 2) := by decide +kernel
theorem dX9_flagWith_26 : decode cX9_flagWith 26 = .ok (.iconst 1, 1) := by decide +kernel
theorem dX9_flagWith_27 : decode cX9_flagWith 27 = .ok (.invokevirtual 49, 3) := by decide +kernel
theorem dX9_flagWith_30 : decode cX9_flagWith 30 = .ok (.iload_n 2, 1) := by decide +kernel
theorem dX9_flagWith_31 : decode cX9_flagWith 31 = .ok (.if_icmp .ne 8, 3) := by decide +kernel
theorem dX9_flagWith_34 : decode cX9_flagWith 34 = .ok (.iload 4, 2) := by decide +kernel
theorem dX9_flagWith_36 : decode cX9_flagWith 36 = .ok (.goto 4, 3) := by decide +kernel
theorem dX9_flagWith_39 : decode cX9_flagWith 39 = .ok (.iload_n 3, 1) := by decide +kernel
theorem dX9_flagWith_40 : decode cX9_flagWith 40 = .ok (.istore_n 3, 1) := by decide +kernel
theorem dX9_flagWith_41 : decode cX9_flagWith 41 = .ok (.iinc 4 (-1), 3) := by decide +kernel
theorem dX9_flagWith_44 : decode cX9_flagWith 44 = .ok (.goto (-37), 3) := by decide +kernel
theorem dX9_flagWith_47 : decode cX9_flagWith 47 = .ok (.iload_n 3, 1) := by decide +kernel
theorem dX9_flagWith_48 : decode cX9_flagWith 48 = .ok (.ireturn, 1) := by decide +kernel
theorem dX9_paint_0 : decode cX9_paint 0 = .ok (.iload_n 1, 1) := by decide +kernel
theorem dX9_paint_1 : decode cX9_paint 1 = .ok (.invokestatic 53, 3) := by decide +kernel
theorem dX9_paint_4 : decode cX9_paint 4 = .ok (.ifCond .ne 5, 3) := by decide +kernel
theorem dX9_paint_7 : decode cX9_paint 7 = .ok (.iconst (-1), 1) := by decide +kernel
theorem dX9_paint_8 : decode cX9_paint 8 = .ok (.ireturn, 1) := by decide +kernel
theorem dX9_paint_9 : decode cX9_paint 9 = .ok (.iload_n 2, 1) := by decide +kernel
theorem dX9_paint_10 : decode cX9_paint 10 = .ok (.iconst 0, 1) := by decide +kernel
theorem dX9_paint_11 : decode cX9_paint 11 = .ok (.bipush 7, 2) := by decide +kernel
theorem dX9_paint_13 : decode cX9_paint 13 = .ok (.invokestatic 26, 3) := by decide +kernel
theorem dX9_paint_16 : decode cX9_paint 16 = .ok (.ifCond .eq 24, 3) := by decide +kernel
theorem dX9_paint_19 : decode cX9_paint 19 = .ok (.iload_n 3, 1) := by decide +kernel
theorem dX9_paint_20 : decode cX9_paint 20 = .ok (.iconst 0, 1) := by decide +kernel
theorem dX9_paint_21 : decode cX9_paint 21 = .ok (.bipush 7, 2) := by decide +kernel
theorem dX9_paint_23 : decode cX9_paint 23 = .ok (.invokestatic 26, 3) := by decide +kernel
theorem dX9_paint_26 : decode cX9_paint 26 = .ok (.ifCond .eq 14, 3) := by decide +kernel
theorem dX9_paint_29 : decode cX9_paint 29 = .ok (.iload 4, 2) := by decide +kernel
theorem dX9_paint_31 : decode cX9_paint 31 = .ok (.iconst 0, 1) := by decide +kernel
theorem dX9_paint_32 : decode cX9_paint 32 = .ok (.bipush 9, 2) := by decide +kernel
theorem dX9_paint_34 : decode cX9_paint 34 = .ok (.invokestatic 26, 3) := by decide +kernel
theorem dX9_paint_37 : decode cX9_paint 37 = .ok (.ifCond .ne 6, 3) := by decide +kernel
theorem dX9_paint_40 : decode cX9_paint 40 = .ok (.bipush (-2), 2) := by decide +kernel
theorem dX9_paint_42 : decode cX9_paint 42 = .ok (.ireturn, 1) := by decide +kernel
theorem dX9_paint_43 : decode cX9_paint 43 = .ok (.aload_n 0, 1) := by decide +kernel
theorem dX9_paint_44 : decode cX9_paint 44 = .ok (.invokevirtual 57, 3) := by decide +kernel
theorem dX9_paint_47 : decode cX9_paint 47 = .ok (.aload_n 0, 1) := by decide +kernel
theorem dX9_paint_48 : decode cX9_paint 48 = .ok (.getfield 7, 3) := by decide +kernel
theorem dX9_paint_51 : decode cX9_paint 51 = .ok (.bipush 8, 2) := by decide +kernel
theorem dX9_paint_53 : decode cX9_paint 53 = .ok (.iconst 3, 1) := by decide +kernel
theorem dX9_paint_54 : decode cX9_paint 54 = .ok (.iload_n 1, 1) := by decide +kernel
theorem dX9_paint_55 : decode cX9_paint 55 = .ok (.imul, 1) := by decide +kernel
theorem dX9_paint_56 : decode cX9_paint 56 = .ok (.iadd, 1) := by decide +kernel
theorem dX9_paint_57 : decode cX9_paint 57 = .ok (.iload_n 2, 1) := by decide +kernel
theorem dX9_paint_58 : decode cX9_paint 58 = .ok (.iastore, 1) := by decide +kernel
theorem dX9_paint_59 : decode cX9_paint 59 = .ok (.aload_n 0, 1) := by decide +kernel
theorem dX9_paint_60 : decode cX9_paint 60 = .ok (.getfield 7, 3) := by decide +kernel
theorem dX9_paint_63 : decode cX9_paint 63 = .ok (.bipush 8, 2) := by decide +kernel
theorem dX9_paint_65 : decode cX9_paint 65 = .ok (.iconst 3, 1) := by decide +kernel
theorem dX9_paint_66 : decode cX9_paint 66 = .ok (.iload_n 1, 1) := by decide +kernel
theorem dX9_paint_67 : decode cX9_paint 67 = .ok (.imul, 1) := by decide +kernel
theorem dX9_paint_68 : decode cX9_paint 68 = .ok (.iadd, 1) := by decide +kernel
theorem dX9_paint_69 : decode cX9_paint 69 = .ok (.iconst 1, 1) := by decide +kernel
theorem dX9_paint_70 : decode cX9_paint 70 = .ok (.iadd, 1) := by decide +kernel
theorem dX9_paint_71 : decode cX9_paint 71 = .ok (.iload_n 3, 1) := by decide +kernel
theorem dX9_paint_72 : decode cX9_paint 72 = .ok (.iastore, 1) := by decide +kernel
theorem dX9_paint_73 : decode cX9_paint 73 = .ok (.aload_n 0, 1) := by decide +kernel
theorem dX9_paint_74 : decode cX9_paint 74 = .ok (.getfield 7, 3) := by decide +kernel
theorem dX9_paint_77 : decode cX9_paint 77 = .ok (.bipush 8, 2) := by decide +kernel
theorem dX9_paint_79 : decode cX9_paint 79 = .ok (.iconst 3, 1) := by decide +kernel
theorem dX9_paint_80 : decode cX9_paint 80 = .ok (.iload_n 1, 1) := by decide +kernel
theorem dX9_paint_81 : decode cX9_paint 81 = .ok (.imul, 1) := by decide +kernel
theorem dX9_paint_82 : decode cX9_paint 82 = .ok (.iadd, 1) := by decide +kernel
theorem dX9_paint_83 : decode cX9_paint 83 = .ok (.iconst 2, 1) := by decide +kernel
theorem dX9_paint_84 : decode cX9_paint 84 = .ok (.iadd, 1) := by decide +kernel
theorem dX9_paint_85 : decode cX9_paint 85 = .ok (.iload 4, 2) := by decide +kernel
theorem dX9_paint_87 : decode cX9_paint 87 = .ok (.iastore, 1) := by decide +kernel
theorem dX9_paint_88 : decode cX9_paint 88 = .ok (.iconst 0, 1) := by decide +kernel
theorem dX9_paint_89 : decode cX9_paint 89 = .ok (.istore 5, 2) := by decide +kernel
theorem dX9_paint_91 : decode cX9_paint 91 = .ok (.iconst 0, 1) := by decide +kernel
theorem dX9_paint_92 : decode cX9_paint 92 = .ok (.istore 6, 2) := by decide +kernel
theorem dX9_paint_94 : decode cX9_paint 94 = .ok (.iload 6, 2) := by decide +kernel
theorem dX9_paint_96 : decode cX9_paint 96 = .ok (.bipush 10, 2) := by decide +kernel
theorem dX9_paint_98 : decode cX9_paint 98 = .ok (.if_icmp .ge 41, 3) := by decide +kernel
theorem dX9_paint_101 : decode cX9_paint 101 = .ok (.iload 5, 2) := by decide +kernel
theorem dX9_paint_103 : decode cX9_paint 103 = .ok (.aload_n 0, 1) := by decide +kernel
theorem dX9_paint_104 : decode cX9_paint 104 = .ok (.iload 6, 2) := by decide +kernel
theorem dX9_paint_106 : decode cX9_paint 106 = .ok (.iconst 0, 1) := by decide +kernel
theorem dX9_paint_107 : decode cX9_paint 107 = .ok (.invokevirtual 49, 3) := by decide +kernel
theorem dX9_paint_110 : decode cX9_paint 110 = .ok (.iload_n 2, 1) := by decide +kernel
theorem dX9_paint_111 : decode cX9_paint 111 = .ok (.if_icmp .ne 18, 3) := by decide +kernel
theorem dX9_paint_114 : decode cX9_paint 114 = .ok (.aload_n 0, 1) := by decide +kernel
theorem dX9_paint_115 : decode cX9_paint 115 = .ok (.iload 6, 2) := by decide +kernel
theorem dX9_paint_117 : decode cX9_paint 117 = .ok (.iconst 1, 1) := by decide +kernel
theorem dX9_paint_118 : decode cX9_paint 118 = .ok (.invokevirtual 49, 3) := by decide +kernel
theorem dX9_paint_121 : decode cX9_paint 121 = .ok (.iload_n 3, 1) := by decide +kernel
theorem dX9_paint_122 : decode cX9_paint 122 = .ok (.if_icmp .ne 7, 3) := by decide +kernel
theorem dX9_paint_125 : decode cX9_paint 125 = .ok (.iconst 1, 1) := by decide +kernel
theorem dX9_paint_126 : decode cX9_paint 126 = .ok (.goto 4, 3) := by decide +kernel
theorem dX9_paint_129 : decode cX9_paint 129 = .ok (.iconst 0, 1) := by decide +kernel
theorem dX9_paint_130 : decode cX9_paint 130 = .ok (.iadd, 1) := by decide +kernel
theorem dX9_paint_131 : decode cX9_paint 131 = .ok (.istore 5, 2) := by decide +kernel
theorem dX9_paint_133 : decode cX9_paint 133 = .ok (.iinc 6 1, 3) := by decide +kernel
theorem dX9_paint_136 : decode cX9_paint 136 = .ok (.goto (-42), 3) := by decide +kernel
theorem dX9_paint_139 : decode cX9_paint 139 = .ok (.iload 5, 2) := by decide +kernel
theorem dX9_paint_141 : decode cX9_paint 141 = .ok (.ireturn, 1) := by decide +kernel
theorem dX9_used_0 : decode cX9_used 0 = .ok (.iconst 0, 1) := by decide +kernel
theorem dX9_used_1 : decode cX9_used 1 = .ok (.istore_n 2, 1) := by decide +kernel
theorem dX9_used_2 : decode cX9_used 2 = .ok (.iconst 0, 1) := by decide +kernel
theorem dX9_used_3 : decode cX9_used 3 = .ok (.istore_n 3, 1) := by decide +kernel
theorem dX9_used_4 : decode cX9_used 4 = .ok (.iload_n 3, 1) := by decide +kernel
theorem dX9_used_5 : decode cX9_used 5 = .ok (.iconst 5, 1) := by decide +kernel
theorem dX9_used_6 : decode cX9_used 6 = .ok (.if_icmp .ge 47, 3) := by decide +kernel
theorem dX9_used_9 : decode cX9_used 9 = .ok (.iconst 1, 1) := by decide +kernel
theorem dX9_used_10 : decode cX9_used 10 = .ok (.istore 4, 2) := by decide +kernel
theorem dX9_used_12 : decode cX9_used 12 = .ok (.iload 4, 2) := by decide +kernel
theorem dX9_used_14 : decode cX9_used 14 = .ok (.aload_n 0, 1) := by decide +kernel
theorem dX9_used_15 : decode cX9_used 15 = .ok (.iload_n 3, 1) := by decide +kernel
theorem dX9_used_16 : decode cX9_used 16 = .ok (.invokevirtual 37, 3) := by decide +kernel
theorem dX9_used_19 : decode cX9_used 19 = .ok (.if_icmp .gt 28, 3) := by decide +kernel
theorem dX9_used_22 : decode cX9_used 22 = .ok (.iload_n 2, 1) := by decide +kernel
theorem dX9_used_23 : decode cX9_used 23 = .ok (.aload_n 0, 1) := by decide +kernel
theorem dX9_used_24 : decode cX9_used 24 = .ok (.iload_n 3, 1) := by decide +kernel
theorem dX9_used_25 : decode cX9_used 25 = .ok (.iload 4, 2) := by decide +kernel
theorem dX9_used_27 : decode cX9_used 27 = .ok (.invokevirtual 60, 3) := by decide +kernel
theorem dX9_used_30 : decode cX9_used 30 = .ok (.iload_n 1, 1) := by decide +kernel
theorem dX9_used_31 : decode cX9_used 31 = .ok (.if_icmp .ne 7, 3) := by decide +kernel
theorem dX9_used_34 : decode cX9_used 34 = .ok (.iconst 1, 1) := by decide +kernel
theorem dX9_used_35 : decode cX9_used 35 = .ok (.goto 4, 3) := by decide +kernel
theorem dX9_used_38 : decode cX9_used 38 = .ok (.iconst 0, 1) := by decide +kernel
theorem dX9_used_39 : decode cX9_used 39 = .ok (.iadd, 1) := by decide +kernel
theorem dX9_used_40 : decode cX9_used 40 = .ok (.istore_n 2, 1) := by decide +kernel
theorem dX9_used_41 : decode cX9_used 41 = .ok (.iinc 4 1, 3) := by decide +kernel
theorem dX9_used_44 : decode cX9_used 44 = .ok (.goto (-32), 3) := by decide +kernel
theorem dX9_used_47 : decode cX9_used 47 = .ok (.iinc 3 1, 3) := by decide +kernel
theorem dX9_used_50 : decode cX9_used 50 = .ok (.goto (-46), 3) := by decide +kernel
theorem dX9_used_53 : decode cX9_used 53 = .ok (.iload_n 2, 1) := by decide +kernel
theorem dX9_used_54 : decode cX9_used 54 = .ok (.ireturn, 1) := by decide +kernel
theorem dX9_mostUsed_0 : decode cX9_mostUsed 0 = .ok (.iconst 0, 1) := by decide +kernel
theorem dX9_mostUsed_1 : decode cX9_mostUsed 1 = .ok (.istore_n 1, 1) := by decide +kernel
theorem dX9_mostUsed_2 : decode cX9_mostUsed 2 = .ok (.iconst 0, 1) := by decide +kernel
theorem dX9_mostUsed_3 : decode cX9_mostUsed 3 = .ok (.istore_n 2, 1) := by decide +kernel
theorem dX9_mostUsed_4 : decode cX9_mostUsed 4 = .ok (.iload_n 2, 1) := by decide +kernel
theorem dX9_mostUsed_5 : decode cX9_mostUsed 5 = .ok (.bipush 13, 2) := by decide +kernel
theorem dX9_mostUsed_7 : decode cX9_mostUsed 7 = .ok (.if_icmp .gt 28, 3) := by decide +kernel
theorem dX9_mostUsed_10 : decode cX9_mostUsed 10 = .ok (.aload_n 0, 1) := by decide +kernel
theorem dX9_mostUsed_11 : decode cX9_mostUsed 11 = .ok (.iload_n 2, 1) := by decide +kernel
theorem dX9_mostUsed_12 : decode cX9_mostUsed 12 = .ok (.invokevirtual 63, 3) := by decide +kernel
theorem dX9_mostUsed_15 : decode cX9_mostUsed 15 = .ok (.iload_n 1, 1) := by decide +kernel
theorem dX9_mostUsed_16 : decode cX9_mostUsed 16 = .ok (.if_icmp .le 11, 3) := by decide +kernel
theorem dX9_mostUsed_19 : decode cX9_mostUsed 19 = .ok (.aload_n 0, 1) := by decide +kernel
theorem dX9_mostUsed_20 : decode cX9_mostUsed 20 = .ok (.iload_n 2, 1) := by decide +kernel
theorem dX9_mostUsed_21 : decode cX9_mostUsed 21 = .ok (.invokevirtual 63, 3) := by decide +kernel
theorem dX9_mostUsed_24 : decode cX9_mostUsed 24 = .ok (.goto 4, 3) := by decide +kernel
theorem dX9_mostUsed_27 : decode cX9_mostUsed 27 = .ok (.iload_n 1, 1) := by decide +kernel
theorem dX9_mostUsed_28 : decode cX9_mostUsed 28 = .ok (.istore_n 1, 1) := by decide +kernel
theorem dX9_mostUsed_29 : decode cX9_mostUsed 29 = .ok (.iinc 2 1, 3) := by decide +kernel
theorem dX9_mostUsed_32 : decode cX9_mostUsed 32 = .ok (.goto (-28), 3) := by decide +kernel
theorem dX9_mostUsed_35 : decode cX9_mostUsed 35 = .ok (.iload_n 1, 1) := by decide +kernel
theorem dX9_mostUsed_36 : decode cX9_mostUsed 36 = .ok (.ireturn, 1) := by decide +kernel
theorem dX9_setStock_0 : decode cX9_setStock 0 = .ok (.iload_n 1, 1) := by decide +kernel
theorem dX9_setStock_1 : decode cX9_setStock 1 = .ok (.iconst 1, 1) := by decide +kernel
theorem dX9_setStock_2 : decode cX9_setStock 2 = .ok (.iconst 3, 1) := by decide +kernel
theorem dX9_setStock_3 : decode cX9_setStock 3 = .ok (.invokestatic 26, 3) := by decide +kernel
theorem dX9_setStock_6 : decode cX9_setStock 6 = .ok (.ifCond .ne 6, 3) := by decide +kernel
theorem dX9_setStock_9 : decode cX9_setStock 9 = .ok (.bipush (-2), 2) := by decide +kernel
theorem dX9_setStock_11 : decode cX9_setStock 11 = .ok (.ireturn, 1) := by decide +kernel
theorem dX9_setStock_12 : decode cX9_setStock 12 = .ok (.aload_n 0, 1) := by decide +kernel
theorem dX9_setStock_13 : decode cX9_setStock 13 = .ok (.invokevirtual 66, 3) := by decide +kernel
theorem dX9_setStock_16 : decode cX9_setStock 16 = .ok (.iload_n 1, 1) := by decide +kernel
theorem dX9_setStock_17 : decode cX9_setStock 17 = .ok (.if_icmp .le 6, 3) := by decide +kernel
theorem dX9_setStock_20 : decode cX9_setStock 20 = .ok (.bipush (-3), 2) := by decide +kernel
theorem dX9_setStock_22 : decode cX9_setStock 22 = .ok (.ireturn, 1) := by decide +kernel
theorem dX9_setStock_23 : decode cX9_setStock 23 = .ok (.aload_n 0, 1) := by decide +kernel
theorem dX9_setStock_24 : decode cX9_setStock 24 = .ok (.invokevirtual 34, 3) := by decide +kernel
theorem dX9_setStock_27 : decode cX9_setStock 27 = .ok (.aload_n 0, 1) := by decide +kernel
theorem dX9_setStock_28 : decode cX9_setStock 28 = .ok (.getfield 7, 3) := by decide +kernel
theorem dX9_setStock_31 : decode cX9_setStock 31 = .ok (.iconst 0, 1) := by decide +kernel
theorem dX9_setStock_32 : decode cX9_setStock 32 = .ok (.iaload, 1) := by decide +kernel
theorem dX9_setStock_33 : decode cX9_setStock 33 = .ok (.istore_n 2, 1) := by decide +kernel
theorem dX9_setStock_34 : decode cX9_setStock 34 = .ok (.aload_n 0, 1) := by decide +kernel
theorem dX9_setStock_35 : decode cX9_setStock 35 = .ok (.getfield 7, 3) := by decide +kernel
theorem dX9_setStock_38 : decode cX9_setStock 38 = .ok (.iconst 0, 1) := by decide +kernel
theorem dX9_setStock_39 : decode cX9_setStock 39 = .ok (.iload_n 1, 1) := by decide +kernel
theorem dX9_setStock_40 : decode cX9_setStock 40 = .ok (.iastore, 1) := by decide +kernel
theorem dX9_setStock_41 : decode cX9_setStock 41 = .ok (.iload_n 2, 1) := by decide +kernel
theorem dX9_setStock_42 : decode cX9_setStock 42 = .ok (.ireturn, 1) := by decide +kernel
theorem dX9_setWind_0 : decode cX9_setWind 0 = .ok (.iload_n 1, 1) := by decide +kernel
theorem dX9_setWind_1 : decode cX9_setWind 1 = .ok (.iconst 0, 1) := by decide +kernel
theorem dX9_setWind_2 : decode cX9_setWind 2 = .ok (.bipush 9, 2) := by decide +kernel
theorem dX9_setWind_4 : decode cX9_setWind 4 = .ok (.invokestatic 26, 3) := by decide +kernel
theorem dX9_setWind_7 : decode cX9_setWind 7 = .ok (.ifCond .eq 10, 3) := by decide +kernel
theorem dX9_setWind_10 : decode cX9_setWind 10 = .ok (.iload_n 2, 1) := by decide +kernel
theorem dX9_setWind_11 : decode cX9_setWind 11 = .ok (.invokestatic 69, 3) := by decide +kernel
theorem dX9_setWind_14 : decode cX9_setWind 14 = .ok (.ifCond .ne 6, 3) := by decide +kernel
theorem dX9_setWind_17 : decode cX9_setWind 17 = .ok (.bipush (-2), 2) := by decide +kernel
theorem dX9_setWind_19 : decode cX9_setWind 19 = .ok (.ireturn, 1) := by decide +kernel
theorem dX9_setWind_20 : decode cX9_setWind 20 = .ok (.aload_n 0, 1) := by decide +kernel
theorem dX9_setWind_21 : decode cX9_setWind 21 = .ok (.invokevirtual 57, 3) := by decide +kernel
theorem dX9_setWind_24 : decode cX9_setWind 24 = .ok (.aload_n 0, 1) := by decide +kernel
theorem dX9_setWind_25 : decode cX9_setWind 25 = .ok (.getfield 7, 3) := by decide +kernel
theorem dX9_setWind_28 : decode cX9_setWind 28 = .ok (.iconst 1, 1) := by decide +kernel
theorem dX9_setWind_29 : decode cX9_setWind 29 = .ok (.iaload, 1) := by decide +kernel
theorem dX9_setWind_30 : decode cX9_setWind 30 = .ok (.istore_n 3, 1) := by decide +kernel
theorem dX9_setWind_31 : decode cX9_setWind 31 = .ok (.aload_n 0, 1) := by decide +kernel
theorem dX9_setWind_32 : decode cX9_setWind 32 = .ok (.getfield 7, 3) := by decide +kernel
theorem dX9_setWind_35 : decode cX9_setWind 35 = .ok (.iconst 1, 1) := by decide +kernel
theorem dX9_setWind_36 : decode cX9_setWind 36 = .ok (.iload_n 1, 1) := by decide +kernel
theorem dX9_setWind_37 : decode cX9_setWind 37 = .ok (.iastore, 1) := by decide +kernel
theorem dX9_setWind_38 : decode cX9_setWind 38 = .ok (.aload_n 0, 1) := by decide +kernel
theorem dX9_setWind_39 : decode cX9_setWind 39 = .ok (.getfield 7, 3) := by decide +kernel
theorem dX9_setWind_42 : decode cX9_setWind 42 = .ok (.iconst 2, 1) := by decide +kernel
theorem dX9_setWind_43 : decode cX9_setWind 43 = .ok (.iload_n 2, 1) := by decide +kernel
theorem dX9_setWind_44 : decode cX9_setWind 44 = .ok (.iastore, 1) := by decide +kernel
theorem dX9_setWind_45 : decode cX9_setWind 45 = .ok (.iload_n 3, 1) := by decide +kernel
theorem dX9_setWind_46 : decode cX9_setWind 46 = .ok (.ireturn, 1) := by decide +kernel
theorem dX9_flag_0 : decode cX9_flag 0 = .ok (.iload_n 1, 1) := by decide +kernel
theorem dX9_flag_1 : decode cX9_flag 1 = .ok (.invokestatic 53, 3) := by decide +kernel
theorem dX9_flag_4 : decode cX9_flag 4 = .ok (.ifCond .ne 5, 3) := by decide +kernel
theorem dX9_flag_7 : decode cX9_flag 7 = .ok (.iconst (-1), 1) := by decide +kernel
theorem dX9_flag_8 : decode cX9_flag 8 = .ok (.ireturn, 1) := by decide +kernel
theorem dX9_flag_9 : decode cX9_flag 9 = .ok (.iload_n 2, 1) := by decide +kernel
theorem dX9_flag_10 : decode cX9_flag 10 = .ok (.tableswitch 71 0 4 #[34, 34, 34, 41, 54], 34) := by decide +kernel
theorem dX9_flag_44 : decode cX9_flag 44 = .ok (.aload_n 0, 1) := by decide +kernel
theorem dX9_flag_45 : decode cX9_flag 45 = .ok (.iload_n 1, 1) := by decide +kernel
theorem dX9_flag_46 : decode cX9_flag 46 = .ok (.iload_n 2, 1) := by decide +kernel
theorem dX9_flag_47 : decode cX9_flag 47 = .ok (.invokevirtual 49, 3) := by decide +kernel
theorem dX9_flag_50 : decode cX9_flag 50 = .ok (.ireturn, 1) := by decide +kernel
theorem dX9_flag_51 : decode cX9_flag 51 = .ok (.aload_n 0, 1) := by decide +kernel
theorem dX9_flag_52 : decode cX9_flag 52 = .ok (.getfield 7, 3) := by decide +kernel
theorem dX9_flag_55 : decode cX9_flag 55 = .ok (.iconst 0, 1) := by decide +kernel
theorem dX9_flag_56 : decode cX9_flag 56 = .ok (.iaload, 1) := by decide +kernel
theorem dX9_flag_57 : decode cX9_flag 57 = .ok (.aload_n 0, 1) := by decide +kernel
theorem dX9_flag_58 : decode cX9_flag 58 = .ok (.iload_n 1, 1) := by decide +kernel
theorem dX9_flag_59 : decode cX9_flag 59 = .ok (.invokevirtual 63, 3) := by decide +kernel
theorem dX9_flag_62 : decode cX9_flag 62 = .ok (.isub, 1) := by decide +kernel
theorem dX9_flag_63 : decode cX9_flag 63 = .ok (.ireturn, 1) := by decide +kernel
theorem dX9_flag_64 : decode cX9_flag 64 = .ok (.aload_n 0, 1) := by decide +kernel
theorem dX9_flag_65 : decode cX9_flag 65 = .ok (.aload_n 0, 1) := by decide +kernel
theorem dX9_flag_66 : decode cX9_flag 66 = .ok (.iload_n 1, 1) := by decide +kernel
theorem dX9_flag_67 : decode cX9_flag 67 = .ok (.iconst 1, 1) := by decide +kernel
theorem dX9_flag_68 : decode cX9_flag 68 = .ok (.invokevirtual 49, 3) := by decide +kernel
theorem dX9_flag_71 : decode cX9_flag 71 = .ok (.aload_n 0, 1) := by decide +kernel
theorem dX9_flag_72 : decode cX9_flag 72 = .ok (.iload_n 1, 1) := by decide +kernel
theorem dX9_flag_73 : decode cX9_flag 73 = .ok (.iconst 0, 1) := by decide +kernel
theorem dX9_flag_74 : decode cX9_flag 74 = .ok (.invokevirtual 49, 3) := by decide +kernel
theorem dX9_flag_77 : decode cX9_flag 77 = .ok (.invokevirtual 72, 3) := by decide +kernel
theorem dX9_flag_80 : decode cX9_flag 80 = .ok (.ireturn, 1) := by decide +kernel
theorem dX9_flag_81 : decode cX9_flag 81 = .ok (.bipush (-2), 2) := by decide +kernel
theorem dX9_flag_83 : decode cX9_flag 83 = .ok (.ireturn, 1) := by decide +kernel
theorem dX9_isSign_0 : decode cX9_isSign 0 = .ok (.iload_n 0, 1) := by decide +kernel
theorem dX9_isSign_1 : decode cX9_isSign 1 = .ok (.invokestatic 53, 3) := by decide +kernel
theorem dX9_isSign_4 : decode cX9_isSign 4 = .ok (.ifCond .ne 14, 3) := by decide +kernel
theorem dX9_isSign_7 : decode cX9_isSign 7 = .ok (.iload_n 0, 1) := by decide +kernel
theorem dX9_isSign_8 : decode cX9_isSign 8 = .ok (.bipush 11, 2) := by decide +kernel
theorem dX9_isSign_10 : decode cX9_isSign 10 = .ok (.bipush 13, 2) := by decide +kernel
theorem dX9_isSign_12 : decode cX9_isSign 12 = .ok (.invokestatic 26, 3) := by decide +kernel
theorem dX9_isSign_15 : decode cX9_isSign 15 = .ok (.ifCond .eq 7, 3) := by decide +kernel
theorem dX9_isSign_18 : decode cX9_isSign 18 = .ok (.iconst 1, 1) := by decide +kernel
theorem dX9_isSign_19 : decode cX9_isSign 19 = .ok (.goto 4, 3) := by decide +kernel
theorem dX9_isSign_22 : decode cX9_isSign 22 = .ok (.iconst 0, 1) := by decide +kernel
theorem dX9_isSign_23 : decode cX9_isSign 23 = .ok (.ireturn, 1) := by decide +kernel
theorem dX9_putOn_0 : decode cX9_putOn 0 = .ok (.aload_n 0, 1) := by decide +kernel
theorem dX9_putOn_1 : decode cX9_putOn 1 = .ok (.getfield 7, 3) := by decide +kernel
theorem dX9_putOn_4 : decode cX9_putOn 4 = .ok (.bipush 38, 2) := by decide +kernel
theorem dX9_putOn_6 : decode cX9_putOn 6 = .ok (.iconst 5, 1) := by decide +kernel
theorem dX9_putOn_7 : decode cX9_putOn 7 = .ok (.iload_n 1, 1) := by decide +kernel
theorem dX9_putOn_8 : decode cX9_putOn 8 = .ok (.imul, 1) := by decide +kernel
theorem dX9_putOn_9 : decode cX9_putOn 9 = .ok (.iadd, 1) := by decide +kernel
theorem dX9_putOn_10 : decode cX9_putOn 10 = .ok (.dup2, 1) := by decide +kernel
theorem dX9_putOn_11 : decode cX9_putOn 11 = .ok (.iaload, 1) := by decide +kernel
theorem dX9_putOn_12 : decode cX9_putOn 12 = .ok (.iconst 1, 1) := by decide +kernel
theorem dX9_putOn_13 : decode cX9_putOn 13 = .ok (.iadd, 1) := by decide +kernel
theorem dX9_putOn_14 : decode cX9_putOn 14 = .ok (.iastore, 1) := by decide +kernel
theorem dX9_putOn_15 : decode cX9_putOn 15 = .ok (.aload_n 0, 1) := by decide +kernel
theorem dX9_putOn_16 : decode cX9_putOn 16 = .ok (.getfield 7, 3) := by decide +kernel
theorem dX9_putOn_19 : decode cX9_putOn 19 = .ok (.bipush 38, 2) := by decide +kernel
theorem dX9_putOn_21 : decode cX9_putOn 21 = .ok (.iconst 5, 1) := by decide +kernel
theorem dX9_putOn_22 : decode cX9_putOn 22 = .ok (.iload_n 1, 1) := by decide +kernel
theorem dX9_putOn_23 : decode cX9_putOn 23 = .ok (.imul, 1) := by decide +kernel
theorem dX9_putOn_24 : decode cX9_putOn 24 = .ok (.iadd, 1) := by decide +kernel
theorem dX9_putOn_25 : decode cX9_putOn 25 = .ok (.aload_n 0, 1) := by decide +kernel
theorem dX9_putOn_26 : decode cX9_putOn 26 = .ok (.iload_n 1, 1) := by decide +kernel
theorem dX9_putOn_27 : decode cX9_putOn 27 = .ok (.invokevirtual 37, 3) := by decide +kernel
theorem dX9_putOn_30 : decode cX9_putOn 30 = .ok (.iadd, 1) := by decide +kernel
theorem dX9_putOn_31 : decode cX9_putOn 31 = .ok (.iload_n 2, 1) := by decide +kernel
theorem dX9_putOn_32 : decode cX9_putOn 32 = .ok (.iastore, 1) := by decide +kernel
theorem dX9_putOn_33 : decode cX9_putOn 33 = .ok (.return_, 1) := by decide +kernel
theorem dX9_bend_0 : decode cX9_bend 0 = .ok (.iload_n 1, 1) := by decide +kernel
theorem dX9_bend_1 : decode cX9_bend 1 = .ok (.invokestatic 75, 3) := by decide +kernel
theorem dX9_bend_4 : decode cX9_bend 4 = .ok (.ifCond .eq 10, 3) := by decide +kernel
theorem dX9_bend_7 : decode cX9_bend 7 = .ok (.iload_n 2, 1) := by decide +kernel
theorem dX9_bend_8 : decode cX9_bend 8 = .ok (.invokestatic 78, 3) := by decide +kernel
theorem dX9_bend_11 : decode cX9_bend 11 = .ok (.ifCond .ne 5, 3) := by decide +kernel
theorem dX9_bend_14 : decode cX9_bend 14 = .ok (.iconst (-1), 1) := by decide +kernel
theorem dX9_bend_15 : decode cX9_bend 15 = .ok (.ireturn, 1) := by decide +kernel
theorem dX9_bend_16 : decode cX9_bend 16 = .ok (.iload_n 2, 1) := by decide +kernel
theorem dX9_bend_17 : decode cX9_bend 17 = .ok (.bipush 10, 2) := by decide +kernel
theorem dX9_bend_19 : decode cX9_bend 19 = .ok (.if_icmp .le 18, 3) := by decide +kernel
theorem dX9_bend_22 : decode cX9_bend 22 = .ok (.iload_n 2, 1) := by decide +kernel
theorem dX9_bend_23 : decode cX9_bend 23 = .ok (.bipush 10, 2) := by decide +kernel
theorem dX9_bend_25 : decode cX9_bend 25 = .ok (.isub, 1) := by decide +kernel
theorem dX9_bend_26 : decode cX9_bend 26 = .ok (.aload_n 0, 1) := by decide +kernel
theorem dX9_bend_27 : decode cX9_bend 27 = .ok (.iload_n 1, 1) := by decide +kernel
theorem dX9_bend_28 : decode cX9_bend 28 = .ok (.invokevirtual 37, 3) := by decide +kernel
theorem dX9_bend_31 : decode cX9_bend 31 = .ok (.if_icmp .le 6, 3) := by decide +kernel
theorem dX9_bend_34 : decode cX9_bend 34 = .ok (.bipush (-3), 2) := by decide +kernel
theorem dX9_bend_36 : decode cX9_bend 36 = .ok (.ireturn, 1) := by decide +kernel
theorem dX9_bend_37 : decode cX9_bend 37 = .ok (.aload_n 0, 1) := by decide +kernel
theorem dX9_bend_38 : decode cX9_bend 38 = .ok (.iload_n 1, 1) := by decide +kernel
theorem dX9_bend_39 : decode cX9_bend 39 = .ok (.invokevirtual 37, 3) := by decide +kernel
theorem dX9_bend_42 : decode cX9_bend 42 = .ok (.iconst 4, 1) := by decide +kernel
theorem dX9_bend_43 : decode cX9_bend 43 = .ok (.if_icmp .eq 17, 3) := by decide +kernel
theorem dX9_bend_46 : decode cX9_bend 46 = .ok (.aload_n 0, 1) := by decide +kernel
theorem dX9_bend_47 : decode cX9_bend 47 = .ok (.iload_n 2, 1) := by decide +kernel
theorem dX9_bend_48 : decode cX9_bend 48 = .ok (.invokevirtual 63, 3) := by decide +kernel
theorem dX9_bend_51 : decode cX9_bend 51 = .ok (.aload_n 0, 1) := by decide +kernel
theorem dX9_bend_52 : decode cX9_bend 52 = .ok (.getfield 7, 3) := by decide +kernel
theorem dX9_bend_55 : decode cX9_bend 55 = .ok (.iconst 0, 1) := by decide +kernel
theorem dX9_bend_56 : decode cX9_bend 56 = .ok (.iaload, 1) := by decide +kernel
theorem dX9_bend_57 : decode cX9_bend 57 = .ok (.if_icmp .ne 6, 3) := by decide +kernel
theorem dX9_bend_60 : decode cX9_bend 60 = .ok (.bipush (-4), 2) := by decide +kernel
theorem dX9_bend_62 : decode cX9_bend 62 = .ok (.ireturn, 1) := by decide +kernel
theorem dX9_bend_63 : decode cX9_bend 63 = .ok (.aload_n 0, 1) := by decide +kernel
theorem dX9_bend_64 : decode cX9_bend 64 = .ok (.invokevirtual 57, 3) := by decide +kernel
theorem dX9_bend_67 : decode cX9_bend 67 = .ok (.aload_n 0, 1) := by decide +kernel
theorem dX9_bend_68 : decode cX9_bend 68 = .ok (.iload_n 1, 1) := by decide +kernel
theorem dX9_bend_69 : decode cX9_bend 69 = .ok (.iload_n 2, 1) := by decide +kernel
theorem dX9_bend_70 : decode cX9_bend 70 = .ok (.invokevirtual 81, 3) := by decide +kernel
theorem dX9_bend_73 : decode cX9_bend 73 = .ok (.aload_n 0, 1) := by decide +kernel
theorem dX9_bend_74 : decode cX9_bend 74 = .ok (.iload_n 1, 1) := by decide +kernel
theorem dX9_bend_75 : decode cX9_bend 75 = .ok (.invokevirtual 37, 3) := by decide +kernel
theorem dX9_bend_78 : decode cX9_bend 78 = .ok (.ireturn, 1) := by decide +kernel
theorem dX9_unbend_0 : decode cX9_unbend 0 = .ok (.iload_n 1, 1) := by decide +kernel
theorem dX9_unbend_1 : decode cX9_unbend 1 = .ok (.invokestatic 75, 3) := by decide +kernel
theorem dX9_unbend_4 : decode cX9_unbend 4 = .ok (.ifCond .ne 5, 3) := by decide +kernel
theorem dX9_unbend_7 : decode cX9_unbend 7 = .ok (.iconst (-1), 1) := by decide +kernel
theorem dX9_unbend_8 : decode cX9_unbend 8 = .ok (.ireturn, 1) := by decide +kernel
theorem dX9_unbend_9 : decode cX9_unbend 9 = .ok (.aload_n 0, 1) := by decide +kernel
theorem dX9_unbend_10 : decode cX9_unbend 10 = .ok (.iload_n 1, 1) := by decide +kernel
theorem dX9_unbend_11 : decode cX9_unbend 11 = .ok (.invokevirtual 37, 3) := by decide +kernel
theorem dX9_unbend_14 : decode cX9_unbend 14 = .ok (.ifCond .ne 6, 3) := by decide +kernel
theorem dX9_unbend_17 : decode cX9_unbend 17 = .ok (.bipush (-3), 2) := by decide +kernel
theorem dX9_unbend_19 : decode cX9_unbend 19 = .ok (.ireturn, 1) := by decide +kernel
theorem dX9_unbend_20 : decode cX9_unbend 20 = .ok (.aload_n 0, 1) := by decide +kernel
theorem dX9_unbend_21 : decode cX9_unbend 21 = .ok (.invokevirtual 57, 3) := by decide +kernel
theorem dX9_unbend_24 : decode cX9_unbend 24 = .ok (.aload_n 0, 1) := by decide +kernel
theorem dX9_unbend_25 : decode cX9_unbend 25 = .ok (.getfield 7, 3) := by decide +kernel
theorem dX9_unbend_28 : decode cX9_unbend 28 = .ok (.bipush 38, 2) := by decide +kernel
theorem dX9_unbend_30 : decode cX9_unbend 30 = .ok (.iconst 5, 1) := by decide +kernel
theorem dX9_unbend_31 : decode cX9_unbend 31 = .ok (.iload_n 1, 1) := by decide +kernel
theorem dX9_unbend_32 : decode cX9_unbend 32 = .ok (.imul, 1) := by decide +kernel
theorem dX9_unbend_33 : decode cX9_unbend 33 = .ok (.iadd, 1) := by decide +kernel
theorem dX9_unbend_34 : decode cX9_unbend 34 = .ok (.dup2, 1) := by decide +kernel
theorem dX9_unbend_35 : decode cX9_unbend 35 = .ok (.iaload, 1) := by decide +kernel
theorem dX9_unbend_36 : decode cX9_unbend 36 = .ok (.iconst 1, 1) := by decide +kernel
theorem dX9_unbend_37 : decode cX9_unbend 37 = .ok (.isub, 1) := by decide +kernel
theorem dX9_unbend_38 : decode cX9_unbend 38 = .ok (.iastore, 1) := by decide +kernel
theorem dX9_unbend_39 : decode cX9_unbend 39 = .ok (.aload_n 0, 1) := by decide +kernel
theorem dX9_unbend_40 : decode cX9_unbend 40 = .ok (.iload_n 1, 1) := by decide +kernel
theorem dX9_unbend_41 : decode cX9_unbend 41 = .ok (.aload_n 0, 1) := by decide +kernel
theorem dX9_unbend_42 : decode cX9_unbend 42 = .ok (.iload_n 1, 1) := by decide +kernel
theorem dX9_unbend_43 : decode cX9_unbend 43 = .ok (.invokevirtual 37, 3) := by decide +kernel
theorem dX9_unbend_46 : decode cX9_unbend 46 = .ok (.iconst 1, 1) := by decide +kernel
theorem dX9_unbend_47 : decode cX9_unbend 47 = .ok (.iadd, 1) := by decide +kernel
theorem dX9_unbend_48 : decode cX9_unbend 48 = .ok (.invokevirtual 60, 3) := by decide +kernel
theorem dX9_unbend_51 : decode cX9_unbend 51 = .ok (.ireturn, 1) := by decide +kernel
theorem dX9_swaps_0 : decode cX9_swaps 0 = .ok (.iconst 0, 1) := by decide +kernel
theorem dX9_swaps_1 : decode cX9_swaps 1 = .ok (.istore_n 3, 1) := by decide +kernel
theorem dX9_swaps_2 : decode cX9_swaps 2 = .ok (.iload_n 3, 1) := by decide +kernel
theorem dX9_swaps_3 : decode cX9_swaps 3 = .ok (.iconst 5, 1) := by decide +kernel
theorem dX9_swaps_4 : decode cX9_swaps 4 = .ok (.if_icmp .ge 65, 3) := by decide +kernel
theorem dX9_swaps_7 : decode cX9_swaps 7 = .ok (.aload_n 0, 1) := by decide +kernel
theorem dX9_swaps_8 : decode cX9_swaps 8 = .ok (.getfield 7, 3) := by decide +kernel
theorem dX9_swaps_11 : decode cX9_swaps 11 = .ok (.bipush 38, 2) := by decide +kernel
theorem dX9_swaps_13 : decode cX9_swaps 13 = .ok (.iconst 5, 1) := by decide +kernel
theorem dX9_swaps_14 : decode cX9_swaps 14 = .ok (.iload_n 1, 1) := by decide +kernel
theorem dX9_swaps_15 : decode cX9_swaps 15 = .ok (.imul, 1) := by decide +kernel
theorem dX9_swaps_16 : decode cX9_swaps 16 = .ok (.iadd, 1) := by decide +kernel
theorem dX9_swaps_17 : decode cX9_swaps 17 = .ok (.iload_n 3, 1) := by decide +kernel
theorem dX9_swaps_18 : decode cX9_swaps 18 = .ok (.iadd, 1) := by decide +kernel
theorem dX9_swaps_19 : decode cX9_swaps 19 = .ok (.iaload, 1) := by decide +kernel
theorem dX9_swaps_20 : decode cX9_swaps 20 = .ok (.istore 4, 2) := by decide +kernel
theorem dX9_swaps_22 : decode cX9_swaps 22 = .ok (.aload_n 0, 1) := by decide +kernel
theorem dX9_swaps_23 : decode cX9_swaps 23 = .ok (.getfield 7, 3) := by decide +kernel
theorem dX9_swaps_26 : decode cX9_swaps 26 = .ok (.bipush 38, 2) := by decide +kernel
theorem dX9_swaps_28 : decode cX9_swaps 28 = .ok (.iconst 5, 1) := by decide +kernel
theorem dX9_swaps_29 : decode cX9_swaps 29 = .ok (.iload_n 1, 1) := by decide +kernel
theorem dX9_swaps_30 : decode cX9_swaps 30 = .ok (.imul, 1) := by decide +kernel
theorem dX9_swaps_31 : decode cX9_swaps 31 = .ok (.iadd, 1) := by decide +kernel
theorem dX9_swaps_32 : decode cX9_swaps 32 = .ok (.iload_n 3, 1) := by decide +kernel
theorem dX9_swaps_33 : decode cX9_swaps 33 = .ok (.iadd, 1) := by decide +kernel
theorem dX9_swaps_34 : decode cX9_swaps 34 = .ok (.aload_n 0, 1) := by decide +kernel
theorem dX9_swaps_35 : decode cX9_swaps 35 = .ok (.getfield 7, 3) := by decide +kernel
theorem dX9_swaps_38 : decode cX9_swaps 38 = .ok (.bipush 38, 2) := by decide +kernel
theorem dX9_swaps_40 : decode cX9_swaps 40 = .ok (.iconst 5, 1) := by decide +kernel
theorem dX9_swaps_41 : decode cX9_swaps 41 = .ok (.iload_n 2, 1) := by decide +kernel
theorem dX9_swaps_42 : decode cX9_swaps 42 = .ok (.imul, 1) := by decide +kernel
theorem dX9_swaps_43 : decode cX9_swaps 43 = .ok (.iadd, 1) := by decide +kernel
theorem dX9_swaps_44 : decode cX9_swaps 44 = .ok (.iload_n 3, 1) := by decide +kernel
theorem dX9_swaps_45 : decode cX9_swaps 45 = .ok (.iadd, 1) := by decide +kernel
theorem dX9_swaps_46 : decode cX9_swaps 46 = .ok (.iaload, 1) := by decide +kernel
theorem dX9_swaps_47 : decode cX9_swaps 47 = .ok (.iastore, 1) := by decide +kernel
theorem dX9_swaps_48 : decode cX9_swaps 48 = .ok (.aload_n 0, 1) := by decide +kernel
theorem dX9_swaps_49 : decode cX9_swaps 49 = .ok (.getfield 7, 3) := by decide +kernel
theorem dX9_swaps_52 : decode cX9_swaps 52 = .ok (.bipush 38, 2) := by decide +kernel
theorem dX9_swaps_54 : decode cX9_swaps 54 = .ok (.iconst 5, 1) := by decide +kernel
theorem dX9_swaps_55 : decode cX9_swaps 55 = .ok (.iload_n 2, 1) := by decide +kernel
theorem dX9_swaps_56 : decode cX9_swaps 56 = .ok (.imul, 1) := by decide +kernel
theorem dX9_swaps_57 : decode cX9_swaps 57 = .ok (.iadd, 1) := by decide +kernel
theorem dX9_swaps_58 : decode cX9_swaps 58 = .ok (.iload_n 3, 1) := by decide +kernel
theorem dX9_swaps_59 : decode cX9_swaps 59 = .ok (.iadd, 1) := by decide +kernel
theorem dX9_swaps_60 : decode cX9_swaps 60 = .ok (.iload 4, 2) := by decide +kernel
theorem dX9_swaps_62 : decode cX9_swaps 62 = .ok (.iastore, 1) := by decide +kernel
theorem dX9_swaps_63 : decode cX9_swaps 63 = .ok (.iinc 3 1, 3) := by decide +kernel
theorem dX9_swaps_66 : decode cX9_swaps 66 = .ok (.goto (-64), 3) := by decide +kernel
theorem dX9_swaps_69 : decode cX9_swaps 69 = .ok (.return_, 1) := by decide +kernel
theorem dX9_exchange_0 : decode cX9_exchange 0 = .ok (.iload_n 1, 1) := by decide +kernel
theorem dX9_exchange_1 : decode cX9_exchange 1 = .ok (.invokestatic 75, 3) := by decide +kernel
theorem dX9_exchange_4 : decode cX9_exchange 4 = .ok (.ifCond .eq 10, 3) := by decide +kernel
theorem dX9_exchange_7 : decode cX9_exchange 7 = .ok (.iload_n 2, 1) := by decide +kernel
theorem dX9_exchange_8 : decode cX9_exchange 8 = .ok (.invokestatic 75, 3) := by decide +kernel
theorem dX9_exchange_11 : decode cX9_exchange 11 = .ok (.ifCond .ne 5, 3) := by decide +kernel
theorem dX9_exchange_14 : decode cX9_exchange 14 = .ok (.iconst (-1), 1) := by decide +kernel
theorem dX9_exchange_15 : decode cX9_exchange 15 = .ok (.ireturn, 1) := by decide +kernel
theorem dX9_exchange_16 : decode cX9_exchange 16 = .ok (.iload_n 1, 1) := by decide +kernel
theorem dX9_exchange_17 : decode cX9_exchange 17 = .ok (.iload_n 2, 1) := by decide +kernel
theorem dX9_exchange_18 : decode cX9_exchange 18 = .ok (.if_icmp .ne 6, 3) := by decide +kernel
theorem dX9_exchange_21 : decode cX9_exchange 21 = .ok (.bipush (-2), 2) := by decide +kernel
theorem dX9_exchange_23 : decode cX9_exchange 23 = .ok (.ireturn, 1) := by decide +kernel
theorem dX9_exchange_24 : decode cX9_exchange 24 = .ok (.aload_n 0, 1) := by decide +kernel
theorem dX9_exchange_25 : decode cX9_exchange 25 = .ok (.invokevirtual 57, 3) := by decide +kernel
theorem dX9_exchange_28 : decode cX9_exchange 28 = .ok (.aload_n 0, 1) := by decide +kernel
theorem dX9_exchange_29 : decode cX9_exchange 29 = .ok (.iload_n 1, 1) := by decide +kernel
theorem dX9_exchange_30 : decode cX9_exchange 30 = .ok (.iload_n 2, 1) := by decide +kernel
theorem dX9_exchange_31 : decode cX9_exchange 31 = .ok (.invokevirtual 85, 3) := by decide +kernel
theorem dX9_exchange_34 : decode cX9_exchange 34 = .ok (.aload_n 0, 1) := by decide +kernel
theorem dX9_exchange_35 : decode cX9_exchange 35 = .ok (.iload_n 1, 1) := by decide +kernel
theorem dX9_exchange_36 : decode cX9_exchange 36 = .ok (.invokevirtual 37, 3) := by decide +kernel
theorem dX9_exchange_39 : decode cX9_exchange 39 = .ok (.aload_n 0, 1) := by decide +kernel
theorem dX9_exchange_40 : decode cX9_exchange 40 = .ok (.iload_n 2, 1) := by decide +kernel
theorem dX9_exchange_41 : decode cX9_exchange 41 = .ok (.invokevirtual 37, 3) := by decide +kernel
theorem dX9_exchange_44 : decode cX9_exchange 44 = .ok (.iadd, 1) := by decide +kernel
theorem dX9_exchange_45 : decode cX9_exchange 45 = .ok (.ireturn, 1) := by decide +kernel
theorem dX9_hoists_0 : decode cX9_hoists 0 = .ok (.iconst 0, 1) := by decide +kernel
theorem dX9_hoists_1 : decode cX9_hoists 1 = .ok (.istore_n 1, 1) := by decide +kernel
theorem dX9_hoists_2 : decode cX9_hoists 2 = .ok (.iconst 0, 1) := by decide +kernel
theorem dX9_hoists_3 : decode cX9_hoists 3 = .ok (.istore_n 2, 1) := by decide +kernel
theorem dX9_hoists_4 : decode cX9_hoists 4 = .ok (.iload_n 2, 1) := by decide +kernel
theorem dX9_hoists_5 : decode cX9_hoists 5 = .ok (.iconst 5, 1) := by decide +kernel
theorem dX9_hoists_6 : decode cX9_hoists 6 = .ok (.if_icmp .ge 25, 3) := by decide +kernel
theorem dX9_hoists_9 : decode cX9_hoists 9 = .ok (.iload_n 1, 1) := by decide +kernel
theorem dX9_hoists_10 : decode cX9_hoists 10 = .ok (.aload_n 0, 1) := by decide +kernel
theorem dX9_hoists_11 : decode cX9_hoists 11 = .ok (.iload_n 2, 1) := by decide +kernel
theorem dX9_hoists_12 : decode cX9_hoists 12 = .ok (.invokevirtual 37, 3) := by decide +kernel
theorem dX9_hoists_15 : decode cX9_hoists 15 = .ok (.ifCond .le 7, 3) := by decide +kernel
theorem dX9_hoists_18 : decode cX9_hoists 18 = .ok (.iconst 1, 1) := by decide +kernel
theorem dX9_hoists_19 : decode cX9_hoists 19 = .ok (.goto 4, 3) := by decide +kernel
theorem dX9_hoists_22 : decode cX9_hoists 22 = .ok (.iconst 0, 1) := by decide +kernel
theorem dX9_hoists_23 : decode cX9_hoists 23 = .ok (.iadd, 1) := by decide +kernel
theorem dX9_hoists_24 : decode cX9_hoists 24 = .ok (.istore_n 1, 1) := by decide +kernel
theorem dX9_hoists_25 : decode cX9_hoists 25 = .ok (.iinc 2 1, 3) := by decide +kernel
theorem dX9_hoists_28 : decode cX9_hoists 28 = .ok (.goto (-24), 3) := by decide +kernel
theorem dX9_hoists_31 : decode cX9_hoists 31 = .ok (.iload_n 1, 1) := by decide +kernel
theorem dX9_hoists_32 : decode cX9_hoists 32 = .ok (.ireturn, 1) := by decide +kernel
theorem dX9_makeEmpty_0 : decode cX9_makeEmpty 0 = .ok (.iconst 0, 1) := by decide +kernel
theorem dX9_makeEmpty_1 : decode cX9_makeEmpty 1 = .ok (.istore_n 1, 1) := by decide +kernel
theorem dX9_makeEmpty_2 : decode cX9_makeEmpty 2 = .ok (.iload_n 1, 1) := by decide +kernel
theorem dX9_makeEmpty_3 : decode cX9_makeEmpty 3 = .ok (.iconst 5, 1) := by decide +kernel
theorem dX9_makeEmpty_4 : decode cX9_makeEmpty 4 = .ok (.if_icmp .ge 21, 3) := by decide +kernel
theorem dX9_makeEmpty_7 : decode cX9_makeEmpty 7 = .ok (.aload_n 0, 1) := by decide +kernel
theorem dX9_makeEmpty_8 : decode cX9_makeEmpty 8 = .ok (.getfield 7, 3) := by decide +kernel
theorem dX9_makeEmpty_11 : decode cX9_makeEmpty 11 = .ok (.bipush 38, 2) := by decide +kernel
theorem dX9_makeEmpty_13 : decode cX9_makeEmpty 13 = .ok (.iconst 5, 1) := by decide +kernel
theorem dX9_makeEmpty_14 : decode cX9_makeEmpty 14 = .ok (.iload_n 1, 1) := by decide +kernel
theorem dX9_makeEmpty_15 : decode cX9_makeEmpty 15 = .ok (.imul, 1) := by decide +kernel
theorem dX9_makeEmpty_16 : decode cX9_makeEmpty 16 = .ok (.iadd, 1) := by decide +kernel
theorem dX9_makeEmpty_17 : decode cX9_makeEmpty 17 = .ok (.iconst 0, 1) := by decide +kernel
theorem dX9_makeEmpty_18 : decode cX9_makeEmpty 18 = .ok (.iastore, 1) := by decide +kernel
theorem dX9_makeEmpty_19 : decode cX9_makeEmpty 19 = .ok (.iinc 1 1, 3) := by decide +kernel
theorem dX9_makeEmpty_22 : decode cX9_makeEmpty 22 = .ok (.goto (-20), 3) := by decide +kernel
theorem dX9_makeEmpty_25 : decode cX9_makeEmpty 25 = .ok (.return_, 1) := by decide +kernel
theorem dX9_logs_0 : decode cX9_logs 0 = .ok (.aload_n 0, 1) := by decide +kernel
theorem dX9_logs_1 : decode cX9_logs 1 = .ok (.getfield 7, 3) := by decide +kernel
theorem dX9_logs_4 : decode cX9_logs 4 = .ok (.bipush 6, 2) := by decide +kernel
theorem dX9_logs_6 : decode cX9_logs 6 = .ok (.iaload, 1) := by decide +kernel
theorem dX9_logs_7 : decode cX9_logs 7 = .ok (.bipush 8, 2) := by decide +kernel
theorem dX9_logs_9 : decode cX9_logs 9 = .ok (.if_icmp .ne 45, 3) := by decide +kernel
theorem dX9_logs_12 : decode cX9_logs 12 = .ok (.bipush 87, 2) := by decide +kernel
theorem dX9_logs_14 : decode cX9_logs 14 = .ok (.istore_n 1, 1) := by decide +kernel
theorem dX9_logs_15 : decode cX9_logs 15 = .ok (.iload_n 1, 1) := by decide +kernel
theorem dX9_logs_16 : decode cX9_logs 16 = .ok (.sipush 129, 3) := by decide +kernel
theorem dX9_logs_19 : decode cX9_logs 19 = .ok (.if_icmp .ge 24, 3) := by decide +kernel
theorem dX9_logs_22 : decode cX9_logs 22 = .ok (.aload_n 0, 1) := by decide +kernel
theorem dX9_logs_23 : decode cX9_logs 23 = .ok (.getfield 7, 3) := by decide +kernel
theorem dX9_logs_26 : decode cX9_logs 26 = .ok (.iload_n 1, 1) := by decide +kernel
theorem dX9_logs_27 : decode cX9_logs 27 = .ok (.aload_n 0, 1) := by decide +kernel
theorem dX9_logs_28 : decode cX9_logs 28 = .ok (.getfield 7, 3) := by decide +kernel
theorem dX9_logs_31 : decode cX9_logs 31 = .ok (.iload_n 1, 1) := by decide +kernel
theorem dX9_logs_32 : decode cX9_logs 32 = .ok (.bipush 6, 2) := by decide +kernel
theorem dX9_logs_34 : decode cX9_logs 34 = .ok (.iadd, 1) := by decide +kernel
theorem dX9_logs_35 : decode cX9_logs 35 = .ok (.iaload, 1) := by decide +kernel
theorem dX9_logs_36 : decode cX9_logs 36 = .ok (.iastore, 1) := by decide +kernel
theorem dX9_logs_37 : decode cX9_logs 37 = .ok (.iinc 1 1, 3) := by decide +kernel
theorem dX9_logs_40 : decode cX9_logs 40 = .ok (.goto (-25), 3) := by decide +kernel
theorem dX9_logs_43 : decode cX9_logs 43 = .ok (.aload_n 0, 1) := by decide +kernel
theorem dX9_logs_44 : decode cX9_logs 44 = .ok (.getfield 7, 3) := by decide +kernel
theorem dX9_logs_47 : decode cX9_logs 47 = .ok (.bipush 6, 2) := by decide +kernel
theorem dX9_logs_49 : decode cX9_logs 49 = .ok (.dup2, 1) := by decide +kernel
theorem dX9_logs_50 : decode cX9_logs 50 = .ok (.iaload, 1) := by decide +kernel
theorem dX9_logs_51 : decode cX9_logs 51 = .ok (.iconst 1, 1) := by decide +kernel
theorem dX9_logs_52 : decode cX9_logs 52 = .ok (.isub, 1) := by decide +kernel
theorem dX9_logs_53 : decode cX9_logs 53 = .ok (.iastore, 1) := by decide +kernel
theorem dX9_logs_54 : decode cX9_logs 54 = .ok (.bipush 87, 2) := by decide +kernel
theorem dX9_logs_56 : decode cX9_logs 56 = .ok (.bipush 6, 2) := by decide +kernel
theorem dX9_logs_58 : decode cX9_logs 58 = .ok (.aload_n 0, 1) := by decide +kernel
theorem dX9_logs_59 : decode cX9_logs 59 = .ok (.getfield 7, 3) := by decide +kernel
theorem dX9_logs_62 : decode cX9_logs 62 = .ok (.bipush 6, 2) := by decide +kernel
theorem dX9_logs_64 : decode cX9_logs 64 = .ok (.iaload, 1) := by decide +kernel
theorem dX9_logs_65 : decode cX9_logs 65 = .ok (.imul, 1) := by decide +kernel
theorem dX9_logs_66 : decode cX9_logs 66 = .ok (.iadd, 1) := by decide +kernel
theorem dX9_logs_67 : decode cX9_logs 67 = .ok (.istore_n 1, 1) := by decide +kernel
theorem dX9_logs_68 : decode cX9_logs 68 = .ok (.aload_n 0, 1) := by decide +kernel
theorem dX9_logs_69 : decode cX9_logs 69 = .ok (.getfield 7, 3) := by decide +kernel
theorem dX9_logs_72 : decode cX9_logs 72 = .ok (.iload_n 1, 1) := by decide +kernel
theorem dX9_logs_73 : decode cX9_logs 73 = .ok (.aload_n 0, 1) := by decide +kernel
theorem dX9_logs_74 : decode cX9_logs 74 = .ok (.invokevirtual 88, 3) := by decide +kernel
theorem dX9_logs_77 : decode cX9_logs 77 = .ok (.iastore, 1) := by decide +kernel
theorem dX9_logs_78 : decode cX9_logs 78 = .ok (.iconst 0, 1) := by decide +kernel
theorem dX9_logs_79 : decode cX9_logs 79 = .ok (.istore_n 2, 1) := by decide +kernel
theorem dX9_logs_80 : decode cX9_logs 80 = .ok (.iload_n 2, 1) := by decide +kernel
theorem dX9_logs_81 : decode cX9_logs 81 = .ok (.iconst 5, 1) := by decide +kernel
theorem dX9_logs_82 : decode cX9_logs 82 = .ok (.if_icmp .ge 42, 3) := by decide +kernel
theorem dX9_logs_85 : decode cX9_logs 85 = .ok (.aload_n 0, 1) := by decide +kernel
theorem dX9_logs_86 : decode cX9_logs 86 = .ok (.getfield 7, 3) := by decide +kernel
theorem dX9_logs_89 : decode cX9_logs 89 = .ok (.iload_n 1, 1) := by decide +kernel
theorem dX9_logs_90 : decode cX9_logs 90 = .ok (.iconst 1, 1) := by decide +kernel
theorem dX9_logs_91 : decode cX9_logs 91 = .ok (.iadd, 1) := by decide +kernel
theorem dX9_logs_92 : decode cX9_logs 92 = .ok (.iload_n 2, 1) := by decide +kernel
theorem dX9_logs_93 : decode cX9_logs 93 = .ok (.iadd, 1) := by decide +kernel
theorem dX9_logs_94 : decode cX9_logs 94 = .ok (.iload_n 2, 1) := by decide +kernel
theorem dX9_logs_95 : decode cX9_logs 95 = .ok (.aload_n 0, 1) := by decide +kernel
theorem dX9_logs_96 : decode cX9_logs 96 = .ok (.invokevirtual 88, 3) := by decide +kernel
theorem dX9_logs_99 : decode cX9_logs 99 = .ok (.if_icmp .ge 17, 3) := by decide +kernel
theorem dX9_logs_102 : decode cX9_logs 102 = .ok (.aload_n 0, 1) := by decide +kernel
theorem dX9_logs_103 : decode cX9_logs 103 = .ok (.aload_n 0, 1) := by decide +kernel
theorem dX9_logs_104 : decode cX9_logs 104 = .ok (.getfield 7, 3) := by decide +kernel
theorem dX9_logs_107 : decode cX9_logs 107 = .ok (.iconst 3, 1) := by decide +kernel
theorem dX9_logs_108 : decode cX9_logs 108 = .ok (.iaload, 1) := by decide +kernel
theorem dX9_logs_109 : decode cX9_logs 109 = .ok (.iload_n 2, 1) := by decide +kernel
theorem dX9_logs_110 : decode cX9_logs 110 = .ok (.invokevirtual 91, 3) := by decide +kernel
theorem dX9_logs_113 : decode cX9_logs 113 = .ok (.goto 4, 3) := by decide +kernel
theorem dX9_logs_116 : decode cX9_logs 116 = .ok (.iconst 0, 1) := by decide +kernel
theorem dX9_logs_117 : decode cX9_logs 117 = .ok (.iastore, 1) := by decide +kernel
theorem dX9_logs_118 : decode cX9_logs 118 = .ok (.iinc 2 1, 3) := by decide +kernel
theorem dX9_logs_121 : decode cX9_logs 121 = .ok (.goto (-41), 3) := by decide +kernel
theorem dX9_logs_124 : decode cX9_logs 124 = .ok (.aload_n 0, 1) := by decide +kernel
theorem dX9_logs_125 : decode cX9_logs 125 = .ok (.getfield 7, 3) := by decide +kernel
theorem dX9_logs_128 : decode cX9_logs 128 = .ok (.bipush 6, 2) := by decide +kernel
theorem dX9_logs_130 : decode cX9_logs 130 = .ok (.dup2, 1) := by decide +kernel
theorem dX9_logs_131 : decode cX9_logs 131 = .ok (.iaload, 1) := by decide +kernel
theorem dX9_logs_132 : decode cX9_logs 132 = .ok (.iconst 1, 1) := by decide +kernel
theorem dX9_logs_133 : decode cX9_logs 133 = .ok (.iadd, 1) := by decide +kernel
theorem dX9_logs_134 : decode cX9_logs 134 = .ok (.iastore, 1) := by decide +kernel
theorem dX9_logs_135 : decode cX9_logs 135 = .ok (.aload_n 0, 1) := by decide +kernel
theorem dX9_logs_136 : decode cX9_logs 136 = .ok (.getfield 7, 3) := by decide +kernel
theorem dX9_logs_139 : decode cX9_logs 139 = .ok (.bipush 7, 2) := by decide +kernel
theorem dX9_logs_141 : decode cX9_logs 141 = .ok (.dup2, 1) := by decide +kernel
theorem dX9_logs_142 : decode cX9_logs 142 = .ok (.iaload, 1) := by decide +kernel
theorem dX9_logs_143 : decode cX9_logs 143 = .ok (.iconst 1, 1) := by decide +kernel
theorem dX9_logs_144 : decode cX9_logs 144 = .ok (.iadd, 1) := by decide +kernel
theorem dX9_logs_145 : decode cX9_logs 145 = .ok (.iastore, 1) := by decide +kernel
theorem dX9_logs_146 : decode cX9_logs 146 = .ok (.return_, 1) := by decide +kernel
theorem dX9_lower_0 : decode cX9_lower 0 = .ok (.aload_n 0, 1) := by decide +kernel
theorem dX9_lower_1 : decode cX9_lower 1 = .ok (.invokevirtual 34, 3) := by decide +kernel
theorem dX9_lower_4 : decode cX9_lower 4 = .ok (.aload_n 0, 1) := by decide +kernel
theorem dX9_lower_5 : decode cX9_lower 5 = .ok (.getfield 7, 3) := by decide +kernel
theorem dX9_lower_8 : decode cX9_lower 8 = .ok (.iconst 4, 1) := by decide +kernel
theorem dX9_lower_9 : decode cX9_lower 9 = .ok (.iaload, 1) := by decide +kernel
theorem dX9_lower_10 : decode cX9_lower 10 = .ok (.iconst 2, 1) := by decide +kernel
theorem dX9_lower_11 : decode cX9_lower 11 = .ok (.if_icmp .ne 10, 3) := by decide +kernel
theorem dX9_lower_14 : decode cX9_lower 14 = .ok (.aload_n 0, 1) := by decide +kernel
theorem dX9_lower_15 : decode cX9_lower 15 = .ok (.invokevirtual 88, 3) := by decide +kernel
theorem dX9_lower_18 : decode cX9_lower 18 = .ok (.goto 4, 3) := by decide +kernel
theorem dX9_lower_21 : decode cX9_lower 21 = .ok (.iconst 0, 1) := by decide +kernel
theorem dX9_lower_22 : decode cX9_lower 22 = .ok (.istore_n 1, 1) := by decide +kernel
theorem dX9_lower_23 : decode cX9_lower 23 = .ok (.iload_n 1, 1) := by decide +kernel
theorem dX9_lower_24 : decode cX9_lower 24 = .ok (.ifCond .le 7, 3) := by decide +kernel
theorem dX9_lower_27 : decode cX9_lower 27 = .ok (.aload_n 0, 1) := by decide +kernel
theorem dX9_lower_28 : decode cX9_lower 28 = .ok (.invokevirtual 94, 3) := by decide +kernel
theorem dX9_lower_31 : decode cX9_lower 31 = .ok (.aload_n 0, 1) := by decide +kernel
theorem dX9_lower_32 : decode cX9_lower 32 = .ok (.invokevirtual 97, 3) := by decide +kernel
theorem dX9_lower_35 : decode cX9_lower 35 = .ok (.aload_n 0, 1) := by decide +kernel
theorem dX9_lower_36 : decode cX9_lower 36 = .ok (.getfield 7, 3) := by decide +kernel
theorem dX9_lower_39 : decode cX9_lower 39 = .ok (.iconst 4, 1) := by decide +kernel
theorem dX9_lower_40 : decode cX9_lower 40 = .ok (.iconst 0, 1) := by decide +kernel
theorem dX9_lower_41 : decode cX9_lower 41 = .ok (.iastore, 1) := by decide +kernel
theorem dX9_lower_42 : decode cX9_lower 42 = .ok (.iload_n 1, 1) := by decide +kernel
theorem dX9_lower_43 : decode cX9_lower 43 = .ok (.ireturn, 1) := by decide +kernel
theorem dX9_isPlace_0 : decode cX9_isPlace 0 = .ok (.iload_n 1, 1) := by decide +kernel
theorem dX9_isPlace_1 : decode cX9_isPlace 1 = .ok (.invokestatic 75, 3) := by decide +kernel
theorem dX9_isPlace_4 : decode cX9_isPlace 4 = .ok (.ifCond .eq 20, 3) := by decide +kernel
theorem dX9_isPlace_7 : decode cX9_isPlace 7 = .ok (.iload_n 2, 1) := by decide +kernel
theorem dX9_isPlace_8 : decode cX9_isPlace 8 = .ok (.iconst 1, 1) := by decide +kernel
theorem dX9_isPlace_9 : decode cX9_isPlace 9 = .ok (.aload_n 0, 1) := by decide +kernel
theorem dX9_isPlace_10 : decode cX9_isPlace 10 = .ok (.iload_n 1, 1) := by decide +kernel
theorem dX9_isPlace_11 : decode cX9_isPlace 11 = .ok (.invokevirtual 37, 3) := by decide +kernel
theorem dX9_isPlace_14 : decode cX9_isPlace 14 = .ok (.invokestatic 26, 3) := by decide +kernel
theorem dX9_isPlace_17 : decode cX9_isPlace 17 = .ok (.ifCond .eq 7, 3) := by decide +kernel
theorem dX9_isPlace_20 : decode cX9_isPlace 20 = .ok (.iconst 1, 1) := by decide +kernel
theorem dX9_isPlace_21 : decode cX9_isPlace 21 = .ok (.goto 4, 3) := by decide +kernel
theorem dX9_isPlace_24 : decode cX9_isPlace 24 = .ok (.iconst 0, 1) := by decide +kernel
theorem dX9_isPlace_25 : decode cX9_isPlace 25 = .ok (.ireturn, 1) := by decide +kernel
theorem dX9_flagOn_0 : decode cX9_flagOn 0 = .ok (.iload_n 2, 1) := by decide +kernel
theorem dX9_flagOn_1 : decode cX9_flagOn 1 = .ok (.istore_n 3, 1) := by decide +kernel
theorem dX9_flagOn_2 : decode cX9_flagOn 2 = .ok (.aload_n 0, 1) := by decide +kernel
theorem dX9_flagOn_3 : decode cX9_flagOn 3 = .ok (.iload_n 1, 1) := by decide +kernel
theorem dX9_flagOn_4 : decode cX9_flagOn 4 = .ok (.iload_n 3, 1) := by decide +kernel
theorem dX9_flagOn_5 : decode cX9_flagOn 5 = .ok (.invokevirtual 60, 3) := by decide +kernel
theorem dX9_flagOn_8 : decode cX9_flagOn 8 = .ok (.bipush 10, 2) := by decide +kernel
theorem dX9_flagOn_10 : decode cX9_flagOn 10 = .ok (.if_icmp .le 16, 3) := by decide +kernel
theorem dX9_flagOn_13 : decode cX9_flagOn 13 = .ok (.aload_n 0, 1) := by decide +kernel
theorem dX9_flagOn_14 : decode cX9_flagOn 14 = .ok (.iload_n 1, 1) := by decide +kernel
theorem dX9_flagOn_15 : decode cX9_flagOn 15 = .ok (.iload_n 3, 1) := by decide +kernel
theorem dX9_flagOn_16 : decode cX9_flagOn 16 = .ok (.invokevirtual 60, 3) := by decide +kernel
theorem dX9_flagOn_19 : decode cX9_flagOn 19 = .ok (.bipush 10, 2) := by decide +kernel
theorem dX9_flagOn_21 : decode cX9_flagOn 21 = .ok (.isub, 1) := by decide +kernel
theorem dX9_flagOn_22 : decode cX9_flagOn 22 = .ok (.istore_n 3, 1) := by decide +kernel
theorem dX9_flagOn_23 : decode cX9_flagOn 23 = .ok (.goto (-21), 3) := by decide +kernel
theorem dX9_flagOn_26 : decode cX9_flagOn 26 = .ok (.aload_n 0, 1) := by decide +kernel
theorem dX9_flagOn_27 : decode cX9_flagOn 27 = .ok (.iload_n 1, 1) := by decide +kernel
theorem dX9_flagOn_28 : decode cX9_flagOn 28 = .ok (.iload_n 3, 1) := by decide +kernel
theorem dX9_flagOn_29 : decode cX9_flagOn 29 = .ok (.invokevirtual 60, 3) := by decide +kernel
theorem dX9_flagOn_32 : decode cX9_flagOn 32 = .ok (.ireturn, 1) := by decide +kernel
theorem dX9_droops_0 : decode cX9_droops 0 = .ok (.aload_n 0, 1) := by decide +kernel
theorem dX9_droops_1 : decode cX9_droops 1 = .ok (.iload_n 1, 1) := by decide +kernel
theorem dX9_droops_2 : decode cX9_droops 2 = .ok (.iconst 2, 1) := by decide +kernel
theorem dX9_droops_3 : decode cX9_droops 3 = .ok (.invokevirtual 49, 3) := by decide +kernel
theorem dX9_droops_6 : decode cX9_droops 6 = .ok (.aload_n 0, 1) := by decide +kernel
theorem dX9_droops_7 : decode cX9_droops 7 = .ok (.getfield 7, 3) := by decide +kernel
theorem dX9_droops_10 : decode cX9_droops 10 = .ok (.iconst 1, 1) := by decide +kernel
theorem dX9_droops_11 : decode cX9_droops 11 = .ok (.iaload, 1) := by decide +kernel
theorem dX9_droops_12 : decode cX9_droops 12 = .ok (.if_icmp .le 7, 3) := by decide +kernel
theorem dX9_droops_15 : decode cX9_droops 15 = .ok (.iconst 1, 1) := by decide +kernel
theorem dX9_droops_16 : decode cX9_droops 16 = .ok (.goto 4, 3) := by decide +kernel
theorem dX9_droops_19 : decode cX9_droops 19 = .ok (.iconst 0, 1) := by decide +kernel
theorem dX9_droops_20 : decode cX9_droops 20 = .ok (.ireturn, 1) := by decide +kernel
theorem dX9_sign_0 : decode cX9_sign 0 = .ok (.aload_n 0, 1) := by decide +kernel
theorem dX9_sign_1 : decode cX9_sign 1 = .ok (.iload_n 1, 1) := by decide +kernel
theorem dX9_sign_2 : decode cX9_sign 2 = .ok (.iload_n 2, 1) := by decide +kernel
theorem dX9_sign_3 : decode cX9_sign 3 = .ok (.invokevirtual 100, 3) := by decide +kernel
theorem dX9_sign_6 : decode cX9_sign 6 = .ok (.ifCond .ne 5, 3) := by decide +kernel
theorem dX9_sign_9 : decode cX9_sign 9 = .ok (.iconst (-1), 1) := by decide +kernel
theorem dX9_sign_10 : decode cX9_sign 10 = .ok (.ireturn, 1) := by decide +kernel
theorem dX9_sign_11 : decode cX9_sign 11 = .ok (.iload_n 3, 1) := by decide +kernel
theorem dX9_sign_12 : decode cX9_sign 12 = .ok (.tableswitch 61 0 2 #[28, 35, 42], 28) := by decide +kernel
theorem dX9_sign_40 : decode cX9_sign 40 = .ok (.aload_n 0, 1) := by decide +kernel
theorem dX9_sign_41 : decode cX9_sign 41 = .ok (.iload_n 1, 1) := by decide +kernel
theorem dX9_sign_42 : decode cX9_sign 42 = .ok (.iload_n 2, 1) := by decide +kernel
theorem dX9_sign_43 : decode cX9_sign 43 = .ok (.invokevirtual 60, 3) := by decide +kernel
theorem dX9_sign_46 : decode cX9_sign 46 = .ok (.ireturn, 1) := by decide +kernel
theorem dX9_sign_47 : decode cX9_sign 47 = .ok (.aload_n 0, 1) := by decide +kernel
theorem dX9_sign_48 : decode cX9_sign 48 = .ok (.iload_n 1, 1) := by decide +kernel
theorem dX9_sign_49 : decode cX9_sign 49 = .ok (.iload_n 2, 1) := by decide +kernel
theorem dX9_sign_50 : decode cX9_sign 50 = .ok (.invokevirtual 104, 3) := by decide +kernel
theorem dX9_sign_53 : decode cX9_sign 53 = .ok (.ireturn, 1) := by decide +kernel
theorem dX9_sign_54 : decode cX9_sign 54 = .ok (.aload_n 0, 1) := by decide +kernel
theorem dX9_sign_55 : decode cX9_sign 55 = .ok (.aload_n 0, 1) := by decide +kernel
theorem dX9_sign_56 : decode cX9_sign 56 = .ok (.iload_n 1, 1) := by decide +kernel
theorem dX9_sign_57 : decode cX9_sign 57 = .ok (.iload_n 2, 1) := by decide +kernel
theorem dX9_sign_58 : decode cX9_sign 58 = .ok (.invokevirtual 104, 3) := by decide +kernel
theorem dX9_sign_61 : decode cX9_sign 61 = .ok (.invokevirtual 107, 3) := by decide +kernel
theorem dX9_sign_64 : decode cX9_sign 64 = .ok (.ifCond .eq 7, 3) := by decide +kernel
theorem dX9_sign_67 : decode cX9_sign 67 = .ok (.iconst 1, 1) := by decide +kernel
theorem dX9_sign_68 : decode cX9_sign 68 = .ok (.goto 4, 3) := by decide +kernel
theorem dX9_sign_71 : decode cX9_sign 71 = .ok (.iconst 0, 1) := by decide +kernel
theorem dX9_sign_72 : decode cX9_sign 72 = .ok (.ireturn, 1) := by decide +kernel
theorem dX9_sign_73 : decode cX9_sign 73 = .ok (.bipush (-2), 2) := by decide +kernel
theorem dX9_sign_75 : decode cX9_sign 75 = .ok (.ireturn, 1) := by decide +kernel
theorem dX9_isCode_0 : decode cX9_isCode 0 = .ok (.iload_n 0, 1) := by decide +kernel
theorem dX9_isCode_1 : decode cX9_isCode 1 = .ok (.bipush 10, 2) := by decide +kernel
theorem dX9_isCode_3 : decode cX9_isCode 3 = .ok (.bipush 19, 2) := by decide +kernel
theorem dX9_isCode_5 : decode cX9_isCode 5 = .ok (.invokestatic 26, 3) := by decide +kernel
theorem dX9_isCode_8 : decode cX9_isCode 8 = .ok (.ifCond .ne 41, 3) := by decide +kernel
theorem dX9_isCode_11 : decode cX9_isCode 11 = .ok (.iload_n 0, 1) := by decide +kernel
theorem dX9_isCode_12 : decode cX9_isCode 12 = .ok (.bipush 100, 2) := by decide +kernel
theorem dX9_isCode_14 : decode cX9_isCode 14 = .ok (.sipush 199, 3) := by decide +kernel
theorem dX9_isCode_17 : decode cX9_isCode 17 = .ok (.invokestatic 26, 3) := by decide +kernel
theorem dX9_isCode_20 : decode cX9_isCode 20 = .ok (.ifCond .ne 29, 3) := by decide +kernel
theorem dX9_isCode_23 : decode cX9_isCode 23 = .ok (.iload_n 0, 1) := by decide +kernel
theorem dX9_isCode_24 : decode cX9_isCode 24 = .ok (.sipush 1000, 3) := by decide +kernel
theorem dX9_isCode_27 : decode cX9_isCode 27 = .ok (.sipush 1999, 3) := by decide +kernel
theorem dX9_isCode_30 : decode cX9_isCode 30 = .ok (.invokestatic 26, 3) := by decide +kernel
theorem dX9_isCode_33 : decode cX9_isCode 33 = .ok (.ifCond .ne 16, 3) := by decide +kernel
theorem dX9_isCode_36 : decode cX9_isCode 36 = .ok (.iload_n 0, 1) := by decide +kernel
theorem dX9_isCode_37 : decode cX9_isCode 37 = .ok (.sipush 10000, 3) := by decide +kernel
theorem dX9_isCode_40 : decode cX9_isCode 40 = .ok (.sipush 19999, 3) := by decide +kernel
theorem dX9_isCode_43 : decode cX9_isCode 43 = .ok (.invokestatic 26, 3) := by decide +kernel
theorem dX9_isCode_46 : decode cX9_isCode 46 = .ok (.ifCond .eq 7, 3) := by decide +kernel
theorem dX9_isCode_49 : decode cX9_isCode 49 = .ok (.iconst 1, 1) := by decide +kernel
theorem dX9_isCode_50 : decode cX9_isCode 50 = .ok (.goto 4, 3) := by decide +kernel
theorem dX9_isCode_53 : decode cX9_isCode 53 = .ok (.iconst 0, 1) := by decide +kernel
theorem dX9_isCode_54 : decode cX9_isCode 54 = .ok (.ireturn, 1) := by decide +kernel
theorem dX9_codeOf_0 : decode cX9_codeOf 0 = .ok (.aload_n 0, 1) := by decide +kernel
theorem dX9_codeOf_1 : decode cX9_codeOf 1 = .ok (.getfield 7, 3) := by decide +kernel
theorem dX9_codeOf_4 : decode cX9_codeOf 4 = .ok (.bipush 63, 2) := by decide +kernel
theorem dX9_codeOf_6 : decode cX9_codeOf 6 = .ok (.iconst 2, 1) := by decide +kernel
theorem dX9_codeOf_7 : decode cX9_codeOf 7 = .ok (.iload_n 1, 1) := by decide +kernel
theorem dX9_codeOf_8 : decode cX9_codeOf 8 = .ok (.imul, 1) := by decide +kernel
theorem dX9_codeOf_9 : decode cX9_codeOf 9 = .ok (.iadd, 1) := by decide +kernel
theorem dX9_codeOf_10 : decode cX9_codeOf 10 = .ok (.iaload, 1) := by decide +kernel
theorem dX9_codeOf_11 : decode cX9_codeOf 11 = .ok (.ireturn, 1) := by decide +kernel
theorem dX9_wordOf_0 : decode cX9_wordOf 0 = .ok (.aload_n 0, 1) := by decide +kernel
theorem dX9_wordOf_1 : decode cX9_wordOf 1 = .ok (.getfield 7, 3) := by decide +kernel
theorem dX9_wordOf_4 : decode cX9_wordOf 4 = .ok (.bipush 63, 2) := by decide +kernel
theorem dX9_wordOf_6 : decode cX9_wordOf 6 = .ok (.iconst 2, 1) := by decide +kernel
theorem dX9_wordOf_7 : decode cX9_wordOf 7 = .ok (.iload_n 1, 1) := by decide +kernel
theorem dX9_wordOf_8 : decode cX9_wordOf 8 = .ok (.imul, 1) := by decide +kernel
theorem dX9_wordOf_9 : decode cX9_wordOf 9 = .ok (.iadd, 1) := by decide +kernel
theorem dX9_wordOf_10 : decode cX9_wordOf 10 = .ok (.iconst 1, 1) := by decide +kernel
theorem dX9_wordOf_11 : decode cX9_wordOf 11 = .ok (.iadd, 1) := by decide +kernel
theorem dX9_wordOf_12 : decode cX9_wordOf 12 = .ok (.iaload, 1) := by decide +kernel
theorem dX9_wordOf_13 : decode cX9_wordOf 13 = .ok (.ireturn, 1) := by decide +kernel
theorem dX9_enter_0 : decode cX9_enter 0 = .ok (.iload_n 1, 1) := by decide +kernel
theorem dX9_enter_1 : decode cX9_enter 1 = .ok (.invokestatic 110, 3) := by decide +kernel
theorem dX9_enter_4 : decode cX9_enter 4 = .ok (.ifCond .eq 13, 3) := by decide +kernel
theorem dX9_enter_7 : decode cX9_enter 7 = .ok (.iload_n 2, 1) := by decide +kernel
theorem dX9_enter_8 : decode cX9_enter 8 = .ok (.iconst 0, 1) := by decide +kernel
theorem dX9_enter_9 : decode cX9_enter 9 = .ok (.bipush 99, 2) := by decide +kernel
theorem dX9_enter_11 : decode cX9_enter 11 = .ok (.invokestatic 26, 3) := by decide +kernel
theorem dX9_enter_14 : decode cX9_enter 14 = .ok (.ifCond .ne 6, 3) := by decide +kernel
theorem dX9_enter_17 : decode cX9_enter 17 = .ok (.bipush (-2), 2) := by decide +kernel
theorem dX9_enter_19 : decode cX9_enter 19 = .ok (.ireturn, 1) := by decide +kernel
theorem dX9_enter_20 : decode cX9_enter 20 = .ok (.aload_n 0, 1) := by decide +kernel
theorem dX9_enter_21 : decode cX9_enter 21 = .ok (.getfield 7, 3) := by decide +kernel
theorem dX9_enter_24 : decode cX9_enter 24 = .ok (.iconst 5, 1) := by decide +kernel
theorem dX9_enter_25 : decode cX9_enter 25 = .ok (.iaload, 1) := by decide +kernel
theorem dX9_enter_26 : decode cX9_enter 26 = .ok (.bipush 12, 2) := by decide +kernel
theorem dX9_enter_28 : decode cX9_enter 28 = .ok (.if_icmp .ne 6, 3) := by decide +kernel
theorem dX9_enter_31 : decode cX9_enter 31 = .ok (.bipush (-4), 2) := by decide +kernel
theorem dX9_enter_33 : decode cX9_enter 33 = .ok (.ireturn, 1) := by decide +kernel
theorem dX9_enter_34 : decode cX9_enter 34 = .ok (.aload_n 0, 1) := by decide +kernel
theorem dX9_enter_35 : decode cX9_enter 35 = .ok (.invokevirtual 57, 3) := by decide +kernel
theorem dX9_enter_38 : decode cX9_enter 38 = .ok (.aload_n 0, 1) := by decide +kernel
theorem dX9_enter_39 : decode cX9_enter 39 = .ok (.getfield 7, 3) := by decide +kernel
theorem dX9_enter_42 : decode cX9_enter 42 = .ok (.bipush 63, 2) := by decide +kernel
theorem dX9_enter_44 : decode cX9_enter 44 = .ok (.iconst 2, 1) := by decide +kernel
theorem dX9_enter_45 : decode cX9_enter 45 = .ok (.aload_n 0, 1) := by decide +kernel
theorem dX9_enter_46 : decode cX9_enter 46 = .ok (.getfield 7, 3) := by decide +kernel
theorem dX9_enter_49 : decode cX9_enter 49 = .ok (.iconst 5, 1) := by decide +kernel
theorem dX9_enter_50 : decode cX9_enter 50 = .ok (.iaload, 1) := by decide +kernel
theorem dX9_enter_51 : decode cX9_enter 51 = .ok (.imul, 1) := by decide +kernel
theorem dX9_enter_52 : decode cX9_enter 52 = .ok (.iadd, 1) := by decide +kernel
theorem dX9_enter_53 : decode cX9_enter 53 = .ok (.iload_n 1, 1) := by decide +kernel
theorem dX9_enter_54 : decode cX9_enter 54 = .ok (.iastore, 1) := by decide +kernel
theorem dX9_enter_55 : decode cX9_enter 55 = .ok (.aload_n 0, 1) := by decide +kernel
theorem dX9_enter_56 : decode cX9_enter 56 = .ok (.getfield 7, 3) := by decide +kernel
theorem dX9_enter_59 : decode cX9_enter 59 = .ok (.bipush 63, 2) := by decide +kernel
theorem dX9_enter_61 : decode cX9_enter 61 = .ok (.iconst 2, 1) := by decide +kernel
theorem dX9_enter_62 : decode cX9_enter 62 = .ok (.aload_n 0, 1) := by decide +kernel
theorem dX9_enter_63 : decode cX9_enter 63 = .ok (.getfield 7, 3) := by decide +kernel
theorem dX9_enter_66 : decode cX9_enter 66 = .ok (.iconst 5, 1) := by decide +kernel
theorem dX9_enter_67 : decode cX9_enter 67 = .ok (.iaload, 1) := by decide +kernel
theorem dX9_enter_68 : decode cX9_enter 68 = .ok (.imul, 1) := by decide +kernel
theorem dX9_enter_69 : decode cX9_enter 69 = .ok (.iadd, 1) := by decide +kernel
theorem dX9_enter_70 : decode cX9_enter 70 = .ok (.iconst 1, 1) := by decide +kernel
theorem dX9_enter_71 : decode cX9_enter 71 = .ok (.iadd, 1) := by decide +kernel
theorem dX9_enter_72 : decode cX9_enter 72 = .ok (.iload_n 2, 1) := by decide +kernel
theorem dX9_enter_73 : decode cX9_enter 73 = .ok (.iastore, 1) := by decide +kernel
theorem dX9_enter_74 : decode cX9_enter 74 = .ok (.aload_n 0, 1) := by decide +kernel
theorem dX9_enter_75 : decode cX9_enter 75 = .ok (.getfield 7, 3) := by decide +kernel
theorem dX9_enter_78 : decode cX9_enter 78 = .ok (.iconst 5, 1) := by decide +kernel
theorem dX9_enter_79 : decode cX9_enter 79 = .ok (.dup2, 1) := by decide +kernel
theorem dX9_enter_80 : decode cX9_enter 80 = .ok (.iaload, 1) := by decide +kernel
theorem dX9_enter_81 : decode cX9_enter 81 = .ok (.iconst 1, 1) := by decide +kernel
theorem dX9_enter_82 : decode cX9_enter 82 = .ok (.iadd, 1) := by decide +kernel
theorem dX9_enter_83 : decode cX9_enter 83 = .ok (.iastore, 1) := by decide +kernel
theorem dX9_enter_84 : decode cX9_enter 84 = .ok (.aload_n 0, 1) := by decide +kernel
theorem dX9_enter_85 : decode cX9_enter 85 = .ok (.getfield 7, 3) := by decide +kernel
theorem dX9_enter_88 : decode cX9_enter 88 = .ok (.iconst 5, 1) := by decide +kernel
theorem dX9_enter_89 : decode cX9_enter 89 = .ok (.iaload, 1) := by decide +kernel
theorem dX9_enter_90 : decode cX9_enter 90 = .ok (.ireturn, 1) := by decide +kernel
theorem dX9_isEntry_0 : decode cX9_isEntry 0 = .ok (.iload_n 1, 1) := by decide +kernel
theorem dX9_isEntry_1 : decode cX9_isEntry 1 = .ok (.iconst 0, 1) := by decide +kernel
theorem dX9_isEntry_2 : decode cX9_isEntry 2 = .ok (.aload_n 0, 1) := by decide +kernel
theorem dX9_isEntry_3 : decode cX9_isEntry 3 = .ok (.getfield 7, 3) := by decide +kernel
theorem dX9_isEntry_6 : decode cX9_isEntry 6 = .ok (.iconst 5, 1) := by decide +kernel
theorem dX9_isEntry_7 : decode cX9_isEntry 7 = .ok (.iaload, 1) := by decide +kernel
theorem dX9_isEntry_8 : decode cX9_isEntry 8 = .ok (.iconst 1, 1) := by decide +kernel
theorem dX9_isEntry_9 : decode cX9_isEntry 9 = .ok (.isub, 1) := by decide +kernel
theorem dX9_isEntry_10 : decode cX9_isEntry 10 = .ok (.invokestatic 26, 3) := by decide +kernel
theorem dX9_isEntry_13 : decode cX9_isEntry 13 = .ok (.ireturn, 1) := by decide +kernel
theorem dX9_strike_0 : decode cX9_strike 0 = .ok (.aload_n 0, 1) := by decide +kernel
theorem dX9_strike_1 : decode cX9_strike 1 = .ok (.iload_n 1, 1) := by decide +kernel
theorem dX9_strike_2 : decode cX9_strike 2 = .ok (.invokevirtual 113, 3) := by decide +kernel
theorem dX9_strike_5 : decode cX9_strike 5 = .ok (.ifCond .ne 5, 3) := by decide +kernel
theorem dX9_strike_8 : decode cX9_strike 8 = .ok (.iconst (-1), 1) := by decide +kernel
theorem dX9_strike_9 : decode cX9_strike 9 = .ok (.ireturn, 1) := by decide +kernel
theorem dX9_strike_10 : decode cX9_strike 10 = .ok (.aload_n 0, 1) := by decide +kernel
theorem dX9_strike_11 : decode cX9_strike 11 = .ok (.invokevirtual 57, 3) := by decide +kernel
theorem dX9_strike_14 : decode cX9_strike 14 = .ok (.aload_n 0, 1) := by decide +kernel
theorem dX9_strike_15 : decode cX9_strike 15 = .ok (.iload_n 1, 1) := by decide +kernel
theorem dX9_strike_16 : decode cX9_strike 16 = .ok (.invokevirtual 116, 3) := by decide +kernel
theorem dX9_strike_19 : decode cX9_strike 19 = .ok (.istore_n 2, 1) := by decide +kernel
theorem dX9_strike_20 : decode cX9_strike 20 = .ok (.aload_n 0, 1) := by decide +kernel
theorem dX9_strike_21 : decode cX9_strike 21 = .ok (.getfield 7, 3) := by decide +kernel
theorem dX9_strike_24 : decode cX9_strike 24 = .ok (.iconst 5, 1) := by decide +kernel
theorem dX9_strike_25 : decode cX9_strike 25 = .ok (.dup2, 1) := by decide +kernel
theorem dX9_strike_26 : decode cX9_strike 26 = .ok (.iaload, 1) := by decide +kernel
theorem dX9_strike_27 : decode cX9_strike 27 = .ok (.iconst 1, 1) := by decide +kernel
theorem dX9_strike_28 : decode cX9_strike 28 = .ok (.isub, 1) := by decide +kernel
theorem dX9_strike_29 : decode cX9_strike 29 = .ok (.iastore, 1) := by decide +kernel
theorem dX9_strike_30 : decode cX9_strike 30 = .ok (.bipush 63, 2) := by decide +kernel
theorem dX9_strike_32 : decode cX9_strike 32 = .ok (.iconst 2, 1) := by decide +kernel
theorem dX9_strike_33 : decode cX9_strike 33 = .ok (.iload_n 1, 1) := by decide +kernel
theorem dX9_strike_34 : decode cX9_strike 34 = .ok (.imul, 1) := by decide +kernel
theorem dX9_strike_35 : decode cX9_strike 35 = .ok (.iadd, 1) := by decide +kernel
theorem dX9_strike_36 : decode cX9_strike 36 = .ok (.istore_n 3, 1) := by decide +kernel
theorem dX9_strike_37 : decode cX9_strike 37 = .ok (.iload_n 3, 1) := by decide +kernel
theorem dX9_strike_38 : decode cX9_strike 38 = .ok (.bipush 63, 2) := by decide +kernel
theorem dX9_strike_40 : decode cX9_strike 40 = .ok (.iconst 2, 1) := by decide +kernel
theorem dX9_strike_41 : decode cX9_strike 41 = .ok (.aload_n 0, 1) := by decide +kernel
theorem dX9_strike_42 : decode cX9_strike 42 = .ok (.getfield 7, 3) := by decide +kernel
theorem dX9_strike_45 : decode cX9_strike 45 = .ok (.iconst 5, 1) := by decide +kernel
theorem dX9_strike_46 : decode cX9_strike 46 = .ok (.iaload, 1) := by decide +kernel
theorem dX9_strike_47 : decode cX9_strike 47 = .ok (.imul, 1) := by decide +kernel
theorem dX9_strike_48 : decode cX9_strike 48 = .ok (.iadd, 1) := by decide +kernel
theorem dX9_strike_49 : decode cX9_strike 49 = .ok (.if_icmp .ge 23, 3) := by decide +kernel
theorem dX9_strike_52 : decode cX9_strike 52 = .ok (.aload_n 0, 1) := by decide +kernel
theorem dX9_strike_53 : decode cX9_strike 53 = .ok (.getfield 7, 3) := by decide +kernel
theorem dX9_strike_56 : decode cX9_strike 56 = .ok (.iload_n 3, 1) := by decide +kernel
theorem dX9_strike_57 : decode cX9_strike 57 = .ok (.aload_n 0, 1) := by decide +kernel
theorem dX9_strike_58 : decode cX9_strike 58 = .ok (.getfield 7, 3) := by decide +kernel
theorem dX9_strike_61 : decode cX9_strike 61 = .ok (.iload_n 3, 1) := by decide +kernel
theorem dX9_strike_62 : decode cX9_strike 62 = .ok (.iconst 2, 1) := by decide +kernel
theorem dX9_strike_63 : decode cX9_strike 63 = .ok (.iadd, 1) := by decide +kernel
theorem dX9_strike_64 : decode cX9_strike 64 = .ok (.iaload, 1) := by decide +kernel
theorem dX9_strike_65 : decode cX9_strike 65 = .ok (.iastore, 1) := by decide +kernel
theorem dX9_strike_66 : decode cX9_strike 66 = .ok (.iinc 3 1, 3) := by decide +kernel
theorem dX9_strike_69 : decode cX9_strike 69 = .ok (.goto (-32), 3) := by decide +kernel
theorem dX9_strike_72 : decode cX9_strike 72 = .ok (.iload_n 2, 1) := by decide +kernel
theorem dX9_strike_73 : decode cX9_strike 73 = .ok (.ireturn, 1) := by decide +kernel
theorem dX9_entry_0 : decode cX9_entry 0 = .ok (.aload_n 0, 1) := by decide +kernel
theorem dX9_entry_1 : decode cX9_entry 1 = .ok (.iload_n 1, 1) := by decide +kernel
theorem dX9_entry_2 : decode cX9_entry 2 = .ok (.invokevirtual 113, 3) := by decide +kernel
theorem dX9_entry_5 : decode cX9_entry 5 = .ok (.ifCond .ne 5, 3) := by decide +kernel
theorem dX9_entry_8 : decode cX9_entry 8 = .ok (.iconst (-1), 1) := by decide +kernel
theorem dX9_entry_9 : decode cX9_entry 9 = .ok (.ireturn, 1) := by decide +kernel
theorem dX9_entry_10 : decode cX9_entry 10 = .ok (.iload_n 2, 1) := by decide +kernel
theorem dX9_entry_11 : decode cX9_entry 11 = .ok (.ifCond .ne 11, 3) := by decide +kernel
theorem dX9_entry_14 : decode cX9_entry 14 = .ok (.aload_n 0, 1) := by decide +kernel
theorem dX9_entry_15 : decode cX9_entry 15 = .ok (.iload_n 1, 1) := by decide +kernel
theorem dX9_entry_16 : decode cX9_entry 16 = .ok (.invokevirtual 119, 3) := by decide +kernel
theorem dX9_entry_19 : decode cX9_entry 19 = .ok (.goto 18, 3) := by decide +kernel
theorem dX9_entry_22 : decode cX9_entry 22 = .ok (.iload_n 2, 1) := by decide +kernel
theorem dX9_entry_23 : decode cX9_entry 23 = .ok (.iconst 1, 1) := by decide +kernel
theorem dX9_entry_24 : decode cX9_entry 24 = .ok (.if_icmp .ne 11, 3) := by decide +kernel
theorem dX9_entry_27 : decode cX9_entry 27 = .ok (.aload_n 0, 1) := by decide +kernel
theorem dX9_entry_28 : decode cX9_entry 28 = .ok (.iload_n 1, 1) := by decide +kernel
theorem dX9_entry_29 : decode cX9_entry 29 = .ok (.invokevirtual 116, 3) := by decide +kernel
theorem dX9_entry_32 : decode cX9_entry 32 = .ok (.goto 5, 3) := by decide +kernel
theorem dX9_entry_35 : decode cX9_entry 35 = .ok (.bipush (-2), 2) := by decide +kernel
theorem dX9_entry_37 : decode cX9_entry 37 = .ok (.ireturn, 1) := by decide +kernel
theorem dX9_taken_0 : decode cX9_taken 0 = .ok (.aload_n 0, 1) := by decide +kernel
theorem dX9_taken_1 : decode cX9_taken 1 = .ok (.iload_n 2, 1) := by decide +kernel
theorem dX9_taken_2 : decode cX9_taken 2 = .ok (.invokevirtual 107, 3) := by decide +kernel
theorem dX9_taken_5 : decode cX9_taken 5 = .ok (.ifCond .eq 6, 3) := by decide +kernel
theorem dX9_taken_8 : decode cX9_taken 8 = .ok (.bipush (-6), 2) := by decide +kernel
theorem dX9_taken_10 : decode cX9_taken 10 = .ok (.ireturn, 1) := by decide +kernel
theorem dX9_taken_11 : decode cX9_taken 11 = .ok (.iload_n 1, 1) := by decide +kernel
theorem dX9_taken_12 : decode cX9_taken 12 = .ok (.aload_n 0, 1) := by decide +kernel
theorem dX9_taken_13 : decode cX9_taken 13 = .ok (.getfield 7, 3) := by decide +kernel
theorem dX9_taken_16 : decode cX9_taken 16 = .ok (.iconst 2, 1) := by decide +kernel
theorem dX9_taken_17 : decode cX9_taken 17 = .ok (.iaload, 1) := by decide +kernel
theorem dX9_taken_18 : decode cX9_taken 18 = .ok (.if_icmp .ne 7, 3) := by decide +kernel
theorem dX9_taken_21 : decode cX9_taken 21 = .ok (.iconst 1, 1) := by decide +kernel
theorem dX9_taken_22 : decode cX9_taken 22 = .ok (.goto 4, 3) := by decide +kernel
theorem dX9_taken_25 : decode cX9_taken 25 = .ok (.iconst 0, 1) := by decide +kernel
theorem dX9_taken_26 : decode cX9_taken 26 = .ok (.istore_n 3, 1) := by decide +kernel
theorem dX9_taken_27 : decode cX9_taken 27 = .ok (.iload_n 3, 1) := by decide +kernel
theorem dX9_taken_28 : decode cX9_taken 28 = .ok (.ifCond .eq 22, 3) := by decide +kernel
theorem dX9_taken_31 : decode cX9_taken 31 = .ok (.aload_n 0, 1) := by decide +kernel
theorem dX9_taken_32 : decode cX9_taken 32 = .ok (.aload_n 0, 1) := by decide +kernel
theorem dX9_taken_33 : decode cX9_taken 33 = .ok (.iload_n 2, 1) := by decide +kernel
theorem dX9_taken_34 : decode cX9_taken 34 = .ok (.iconst 0, 1) := by decide +kernel
theorem dX9_taken_35 : decode cX9_taken 35 = .ok (.invokevirtual 49, 3) := by decide +kernel
theorem dX9_taken_38 : decode cX9_taken 38 = .ok (.aload_n 0, 1) := by decide +kernel
theorem dX9_taken_39 : decode cX9_taken 39 = .ok (.iload_n 2, 1) := by decide +kernel
theorem dX9_taken_40 : decode cX9_taken 40 = .ok (.iconst 1, 1) := by decide +kernel
theorem dX9_taken_41 : decode cX9_taken 41 = .ok (.invokevirtual 49, 3) := by decide +kernel
theorem dX9_taken_44 : decode cX9_taken 44 = .ok (.invokevirtual 72, 3) := by decide +kernel
theorem dX9_taken_47 : decode cX9_taken 47 = .ok (.goto 19, 3) := by decide +kernel
theorem dX9_taken_50 : decode cX9_taken 50 = .ok (.aload_n 0, 1) := by decide +kernel
theorem dX9_taken_51 : decode cX9_taken 51 = .ok (.aload_n 0, 1) := by decide +kernel
theorem dX9_taken_52 : decode cX9_taken 52 = .ok (.iload_n 2, 1) := by decide +kernel
theorem dX9_taken_53 : decode cX9_taken 53 = .ok (.iconst 1, 1) := by decide +kernel
theorem dX9_taken_54 : decode cX9_taken 54 = .ok (.invokevirtual 49, 3) := by decide +kernel
theorem dX9_taken_57 : decode cX9_taken 57 = .ok (.aload_n 0, 1) := by decide +kernel
theorem dX9_taken_58 : decode cX9_taken 58 = .ok (.iload_n 2, 1) := by decide +kernel
theorem dX9_taken_59 : decode cX9_taken 59 = .ok (.iconst 0, 1) := by decide +kernel
theorem dX9_taken_60 : decode cX9_taken 60 = .ok (.invokevirtual 49, 3) := by decide +kernel
theorem dX9_taken_63 : decode cX9_taken 63 = .ok (.invokevirtual 72, 3) := by decide +kernel
theorem dX9_taken_66 : decode cX9_taken 66 = .ok (.ireturn, 1) := by decide +kernel
theorem dX9_seen_0 : decode cX9_seen 0 = .ok (.iload_n 1, 1) := by decide +kernel
theorem dX9_seen_1 : decode cX9_seen 1 = .ok (.invokestatic 69, 3) := by decide +kernel
theorem dX9_seen_4 : decode cX9_seen 4 = .ok (.ifCond .ne 6, 3) := by decide +kernel
theorem dX9_seen_7 : decode cX9_seen 7 = .ok (.bipush (-2), 2) := by decide +kernel
theorem dX9_seen_9 : decode cX9_seen 9 = .ok (.ireturn, 1) := by decide +kernel
theorem dX9_seen_10 : decode cX9_seen 10 = .ok (.aload_n 0, 1) := by decide +kernel
theorem dX9_seen_11 : decode cX9_seen 11 = .ok (.iload_n 2, 1) := by decide +kernel
theorem dX9_seen_12 : decode cX9_seen 12 = .ok (.iload_n 3, 1) := by decide +kernel
theorem dX9_seen_13 : decode cX9_seen 13 = .ok (.invokevirtual 100, 3) := by decide +kernel
theorem dX9_seen_16 : decode cX9_seen 16 = .ok (.ifCond .eq 17, 3) := by decide +kernel
theorem dX9_seen_19 : decode cX9_seen 19 = .ok (.aload_n 0, 1) := by decide +kernel
theorem dX9_seen_20 : decode cX9_seen 20 = .ok (.iload_n 1, 1) := by decide +kernel
theorem dX9_seen_21 : decode cX9_seen 21 = .ok (.aload_n 0, 1) := by decide +kernel
theorem dX9_seen_22 : decode cX9_seen 22 = .ok (.iload_n 2, 1) := by decide +kernel
theorem dX9_seen_23 : decode cX9_seen 23 = .ok (.iload_n 3, 1) := by decide +kernel
theorem dX9_seen_24 : decode cX9_seen 24 = .ok (.invokevirtual 104, 3) := by decide +kernel
theorem dX9_seen_27 : decode cX9_seen 27 = .ok (.invokevirtual 122, 3) := by decide +kernel
theorem dX9_seen_30 : decode cX9_seen 30 = .ok (.goto 4, 3) := by decide +kernel
theorem dX9_seen_33 : decode cX9_seen 33 = .ok (.iconst (-1), 1) := by decide +kernel
theorem dX9_seen_34 : decode cX9_seen 34 = .ok (.ireturn, 1) := by decide +kernel
theorem dX9_read_0 : decode cX9_read 0 = .ok (.iconst 1, 1) := by decide +kernel
theorem dX9_read_1 : decode cX9_read 1 = .ok (.istore_n 3, 1) := by decide +kernel
theorem dX9_read_2 : decode cX9_read 2 = .ok (.iconst 1, 1) := by decide +kernel
theorem dX9_read_3 : decode cX9_read 3 = .ok (.istore 4, 2) := by decide +kernel
theorem dX9_read_5 : decode cX9_read 5 = .ok (.iload 4, 2) := by decide +kernel
theorem dX9_read_7 : decode cX9_read 7 = .ok (.aload_n 0, 1) := by decide +kernel
theorem dX9_read_8 : decode cX9_read 8 = .ok (.iload_n 2, 1) := by decide +kernel
theorem dX9_read_9 : decode cX9_read 9 = .ok (.invokevirtual 37, 3) := by decide +kernel
theorem dX9_read_12 : decode cX9_read 12 = .ok (.if_icmp .gt 41, 3) := by decide +kernel
theorem dX9_read_15 : decode cX9_read 15 = .ok (.aload_n 0, 1) := by decide +kernel
theorem dX9_read_16 : decode cX9_read 16 = .ok (.iload_n 1, 1) := by decide +kernel
theorem dX9_read_17 : decode cX9_read 17 = .ok (.aload_n 0, 1) := by decide +kernel
theorem dX9_read_18 : decode cX9_read 18 = .ok (.iload_n 2, 1) := by decide +kernel
theorem dX9_read_19 : decode cX9_read 19 = .ok (.iload 4, 2) := by decide +kernel
theorem dX9_read_21 : decode cX9_read 21 = .ok (.invokevirtual 104, 3) := by decide +kernel
theorem dX9_read_24 : decode cX9_read 24 = .ok (.invokevirtual 122, 3) := by decide +kernel
theorem dX9_read_27 : decode cX9_read 27 = .ok (.istore 5, 2) := by decide +kernel
theorem dX9_read_29 : decode cX9_read 29 = .ok (.iload 5, 2) := by decide +kernel
theorem dX9_read_31 : decode cX9_read 31 = .ok (.bipush (-6), 2) := by decide +kernel
theorem dX9_read_33 : decode cX9_read 33 = .ok (.if_icmp .ne 6, 3) := by decide +kernel
theorem dX9_read_36 : decode cX9_read 36 = .ok (.bipush (-6), 2) := by decide +kernel
theorem dX9_read_38 : decode cX9_read 38 = .ok (.ireturn, 1) := by decide +kernel
theorem dX9_read_39 : decode cX9_read 39 = .ok (.bipush 10, 2) := by decide +kernel
theorem dX9_read_41 : decode cX9_read 41 = .ok (.iload_n 3, 1) := by decide +kernel
theorem dX9_read_42 : decode cX9_read 42 = .ok (.imul, 1) := by decide +kernel
theorem dX9_read_43 : decode cX9_read 43 = .ok (.iload 5, 2) := by decide +kernel
theorem dX9_read_45 : decode cX9_read 45 = .ok (.iadd, 1) := by decide +kernel
theorem dX9_read_46 : decode cX9_read 46 = .ok (.istore_n 3, 1) := by decide +kernel
theorem dX9_read_47 : decode cX9_read 47 = .ok (.iinc 4 1, 3) := by decide +kernel
theorem dX9_read_50 : decode cX9_read 50 = .ok (.goto (-45), 3) := by decide +kernel
theorem dX9_read_53 : decode cX9_read 53 = .ok (.iconst 0, 1) := by decide +kernel
theorem dX9_read_54 : decode cX9_read 54 = .ok (.istore 4, 2) := by decide +kernel
theorem dX9_read_56 : decode cX9_read 56 = .ok (.iload 4, 2) := by decide +kernel
theorem dX9_read_58 : decode cX9_read 58 = .ok (.aload_n 0, 1) := by decide +kernel
theorem dX9_read_59 : decode cX9_read 59 = .ok (.getfield 7, 3) := by decide +kernel
theorem dX9_read_62 : decode cX9_read 62 = .ok (.iconst 5, 1) := by decide +kernel
theorem dX9_read_63 : decode cX9_read 63 = .ok (.iaload, 1) := by decide +kernel
theorem dX9_read_64 : decode cX9_read 64 = .ok (.if_icmp .ge 26, 3) := by decide +kernel
theorem dX9_read_67 : decode cX9_read 67 = .ok (.aload_n 0, 1) := by decide +kernel
theorem dX9_read_68 : decode cX9_read 68 = .ok (.iload 4, 2) := by decide +kernel
theorem dX9_read_70 : decode cX9_read 70 = .ok (.invokevirtual 119, 3) := by decide +kernel
theorem dX9_read_73 : decode cX9_read 73 = .ok (.iload_n 3, 1) := by decide +kernel
theorem dX9_read_74 : decode cX9_read 74 = .ok (.if_icmp .ne 10, 3) := by decide +kernel
theorem dX9_read_77 : decode cX9_read 77 = .ok (.aload_n 0, 1) := by decide +kernel
theorem dX9_read_78 : decode cX9_read 78 = .ok (.iload 4, 2) := by decide +kernel
theorem dX9_read_80 : decode cX9_read 80 = .ok (.invokevirtual 116, 3) := by decide +kernel
theorem dX9_read_83 : decode cX9_read 83 = .ok (.ireturn, 1) := by decide +kernel
theorem dX9_read_84 : decode cX9_read 84 = .ok (.iinc 4 1, 3) := by decide +kernel
theorem dX9_read_87 : decode cX9_read 87 = .ok (.goto (-31), 3) := by decide +kernel
theorem dX9_read_90 : decode cX9_read 90 = .ok (.bipush (-6), 2) := by decide +kernel
theorem dX9_read_92 : decode cX9_read 92 = .ok (.ireturn, 1) := by decide +kernel
theorem dX9_wordAt_0 : decode cX9_wordAt 0 = .ok (.iload_n 2, 1) := by decide +kernel
theorem dX9_wordAt_1 : decode cX9_wordAt 1 = .ok (.istore_n 3, 1) := by decide +kernel
theorem dX9_wordAt_2 : decode cX9_wordAt 2 = .ok (.iconst 0, 1) := by decide +kernel
theorem dX9_wordAt_3 : decode cX9_wordAt 3 = .ok (.istore 4, 2) := by decide +kernel
theorem dX9_wordAt_5 : decode cX9_wordAt 5 = .ok (.iload 4, 2) := by decide +kernel
theorem dX9_wordAt_7 : decode cX9_wordAt 7 = .ok (.iconst 5, 1) := by decide +kernel
theorem dX9_wordAt_8 : decode cX9_wordAt 8 = .ok (.if_icmp .ge 48, 3) := by decide +kernel
theorem dX9_wordAt_11 : decode cX9_wordAt 11 = .ok (.iload_n 1, 1) := by decide +kernel
theorem dX9_wordAt_12 : decode cX9_wordAt 12 = .ok (.ifCond .ne 8, 3) := by decide +kernel
theorem dX9_wordAt_15 : decode cX9_wordAt 15 = .ok (.iload 4, 2) := by decide +kernel
theorem dX9_wordAt_17 : decode cX9_wordAt 17 = .ok (.goto 7, 3) := by decide +kernel
theorem dX9_wordAt_20 : decode cX9_wordAt 20 = .ok (.iconst 4, 1) := by decide +kernel
theorem dX9_wordAt_21 : decode cX9_wordAt 21 = .ok (.iload 4, 2) := by decide +kernel
theorem dX9_wordAt_23 : decode cX9_wordAt 23 = .ok (.isub, 1) := by decide +kernel
theorem dX9_wordAt_24 : decode cX9_wordAt 24 = .ok (.istore 5, 2) := by decide +kernel
theorem dX9_wordAt_26 : decode cX9_wordAt 26 = .ok (.aload_n 0, 1) := by decide +kernel
theorem dX9_wordAt_27 : decode cX9_wordAt 27 = .ok (.iload 5, 2) := by decide +kernel
theorem dX9_wordAt_29 : decode cX9_wordAt 29 = .ok (.invokevirtual 37, 3) := by decide +kernel
theorem dX9_wordAt_32 : decode cX9_wordAt 32 = .ok (.ifCond .le 18, 3) := by decide +kernel
theorem dX9_wordAt_35 : decode cX9_wordAt 35 = .ok (.iload_n 3, 1) := by decide +kernel
theorem dX9_wordAt_36 : decode cX9_wordAt 36 = .ok (.ifCond .ne 11, 3) := by decide +kernel
theorem dX9_wordAt_39 : decode cX9_wordAt 39 = .ok (.aload_n 0, 1) := by decide +kernel
theorem dX9_wordAt_40 : decode cX9_wordAt 40 = .ok (.iload_n 1, 1) := by decide +kernel
theorem dX9_wordAt_41 : decode cX9_wordAt 41 = .ok (.iload 5, 2) := by decide +kernel
theorem dX9_wordAt_43 : decode cX9_wordAt 43 = .ok (.invokevirtual 125, 3) := by decide +kernel
theorem dX9_wordAt_46 : decode cX9_wordAt 46 = .ok (.ireturn, 1) := by decide +kernel
theorem dX9_wordAt_47 : decode cX9_wordAt 47 = .ok (.iinc 3 (-1), 3) := by decide +kernel
theorem dX9_wordAt_50 : decode cX9_wordAt 50 = .ok (.iinc 4 1, 3) := by decide +kernel
theorem dX9_wordAt_53 : decode cX9_wordAt 53 = .ok (.goto (-48), 3) := by decide +kernel
theorem dX9_wordAt_56 : decode cX9_wordAt 56 = .ok (.bipush (-6), 2) := by decide +kernel
theorem dX9_wordAt_58 : decode cX9_wordAt 58 = .ok (.ireturn, 1) := by decide +kernel
theorem dX9_word_0 : decode cX9_word 0 = .ok (.iload_n 1, 1) := by decide +kernel
theorem dX9_word_1 : decode cX9_word 1 = .ok (.invokestatic 69, 3) := by decide +kernel
theorem dX9_word_4 : decode cX9_word 4 = .ok (.ifCond .ne 6, 3) := by decide +kernel
theorem dX9_word_7 : decode cX9_word 7 = .ok (.bipush (-2), 2) := by decide +kernel
theorem dX9_word_9 : decode cX9_word 9 = .ok (.ireturn, 1) := by decide +kernel
theorem dX9_word_10 : decode cX9_word 10 = .ok (.iload_n 2, 1) := by decide +kernel
theorem dX9_word_11 : decode cX9_word 11 = .ok (.iconst 0, 1) := by decide +kernel
theorem dX9_word_12 : decode cX9_word 12 = .ok (.aload_n 0, 1) := by decide +kernel
theorem dX9_word_13 : decode cX9_word 13 = .ok (.invokevirtual 88, 3) := by decide +kernel
theorem dX9_word_16 : decode cX9_word 16 = .ok (.iconst 1, 1) := by decide +kernel
theorem dX9_word_17 : decode cX9_word 17 = .ok (.isub, 1) := by decide +kernel
theorem dX9_word_18 : decode cX9_word 18 = .ok (.invokestatic 26, 3) := by decide +kernel
theorem dX9_word_21 : decode cX9_word 21 = .ok (.ifCond .eq 12, 3) := by decide +kernel
theorem dX9_word_24 : decode cX9_word 24 = .ok (.aload_n 0, 1) := by decide +kernel
theorem dX9_word_25 : decode cX9_word 25 = .ok (.iload_n 1, 1) := by decide +kernel
theorem dX9_word_26 : decode cX9_word 26 = .ok (.iload_n 2, 1) := by decide +kernel
theorem dX9_word_27 : decode cX9_word 27 = .ok (.invokevirtual 91, 3) := by decide +kernel
theorem dX9_word_30 : decode cX9_word 30 = .ok (.goto 4, 3) := by decide +kernel
theorem dX9_word_33 : decode cX9_word 33 = .ok (.iconst (-1), 1) := by decide +kernel
theorem dX9_word_34 : decode cX9_word 34 = .ok (.ireturn, 1) := by decide +kernel
theorem dX9_knownBy_0 : decode cX9_knownBy 0 = .ok (.iconst 0, 1) := by decide +kernel
theorem dX9_knownBy_1 : decode cX9_knownBy 1 = .ok (.istore_n 2, 1) := by decide +kernel
theorem dX9_knownBy_2 : decode cX9_knownBy 2 = .ok (.iconst 0, 1) := by decide +kernel
theorem dX9_knownBy_3 : decode cX9_knownBy 3 = .ok (.istore_n 3, 1) := by decide +kernel
theorem dX9_knownBy_4 : decode cX9_knownBy 4 = .ok (.iload_n 3, 1) := by decide +kernel
theorem dX9_knownBy_5 : decode cX9_knownBy 5 = .ok (.iconst 5, 1) := by decide +kernel
theorem dX9_knownBy_6 : decode cX9_knownBy 6 = .ok (.if_icmp .ge 36, 3) := by decide +kernel
theorem dX9_knownBy_9 : decode cX9_knownBy 9 = .ok (.iload_n 2, 1) := by decide +kernel
theorem dX9_knownBy_10 : decode cX9_knownBy 10 = .ok (.aload_n 0, 1) := by decide +kernel
theorem dX9_knownBy_11 : decode cX9_knownBy 11 = .ok (.iload_n 3, 1) := by decide +kernel
theorem dX9_knownBy_12 : decode cX9_knownBy 12 = .ok (.invokevirtual 37, 3) := by decide +kernel
theorem dX9_knownBy_15 : decode cX9_knownBy 15 = .ok (.ifCond .le 18, 3) := by decide +kernel
theorem dX9_knownBy_18 : decode cX9_knownBy 18 = .ok (.aload_n 0, 1) := by decide +kernel
theorem dX9_knownBy_19 : decode cX9_knownBy 19 = .ok (.iload_n 1, 1) := by decide +kernel
theorem dX9_knownBy_20 : decode cX9_knownBy 20 = .ok (.iload_n 3, 1) := by decide +kernel
theorem dX9_knownBy_21 : decode cX9_knownBy 21 = .ok (.invokevirtual 125, 3) := by decide +kernel
theorem dX9_knownBy_24 : decode cX9_knownBy 24 = .ok (.bipush (-6), 2) := by decide +kernel
theorem dX9_knownBy_26 : decode cX9_knownBy 26 = .ok (.if_icmp .eq 7, 3) := by decide +kernel
theorem dX9_knownBy_29 : decode cX9_knownBy 29 = .ok (.iconst 1, 1) := by decide +kernel
theorem dX9_knownBy_30 : decode cX9_knownBy 30 = .ok (.goto 4, 3) := by decide +kernel
theorem dX9_knownBy_33 : decode cX9_knownBy 33 = .ok (.iconst 0, 1) := by decide +kernel
theorem dX9_knownBy_34 : decode cX9_knownBy 34 = .ok (.iadd, 1) := by decide +kernel
theorem dX9_knownBy_35 : decode cX9_knownBy 35 = .ok (.istore_n 2, 1) := by decide +kernel
theorem dX9_knownBy_36 : decode cX9_knownBy 36 = .ok (.iinc 3 1, 3) := by decide +kernel
theorem dX9_knownBy_39 : decode cX9_knownBy 39 = .ok (.goto (-35), 3) := by decide +kernel
theorem dX9_knownBy_42 : decode cX9_knownBy 42 = .ok (.iload_n 2, 1) := by decide +kernel
theorem dX9_knownBy_43 : decode cX9_knownBy 43 = .ok (.ireturn, 1) := by decide +kernel
theorem dX9_known_0 : decode cX9_known 0 = .ok (.iload_n 1, 1) := by decide +kernel
theorem dX9_known_1 : decode cX9_known 1 = .ok (.invokestatic 69, 3) := by decide +kernel
theorem dX9_known_4 : decode cX9_known 4 = .ok (.ifCond .eq 11, 3) := by decide +kernel
theorem dX9_known_7 : decode cX9_known 7 = .ok (.aload_n 0, 1) := by decide +kernel
theorem dX9_known_8 : decode cX9_known 8 = .ok (.iload_n 1, 1) := by decide +kernel
theorem dX9_known_9 : decode cX9_known 9 = .ok (.invokevirtual 128, 3) := by decide +kernel
theorem dX9_known_12 : decode cX9_known 12 = .ok (.goto 5, 3) := by decide +kernel
theorem dX9_known_15 : decode cX9_known 15 = .ok (.bipush (-2), 2) := by decide +kernel
theorem dX9_known_17 : decode cX9_known 17 = .ok (.ireturn, 1) := by decide +kernel
theorem dX9_knowsAll_0 : decode cX9_knowsAll 0 = .ok (.aload_n 0, 1) := by decide +kernel
theorem dX9_knowsAll_1 : decode cX9_knowsAll 1 = .ok (.invokevirtual 88, 3) := by decide +kernel
theorem dX9_knowsAll_4 : decode cX9_knowsAll 4 = .ok (.ifCond .le 19, 3) := by decide +kernel
theorem dX9_knowsAll_7 : decode cX9_knowsAll 7 = .ok (.aload_n 0, 1) := by decide +kernel
theorem dX9_knowsAll_8 : decode cX9_knowsAll 8 = .ok (.iload_n 1, 1) := by decide +kernel
theorem dX9_knowsAll_9 : decode cX9_knowsAll 9 = .ok (.invokevirtual 128, 3) := by decide +kernel
theorem dX9_knowsAll_12 : decode cX9_knowsAll 12 = .ok (.aload_n 0, 1) := by decide +kernel
theorem dX9_knowsAll_13 : decode cX9_knowsAll 13 = .ok (.invokevirtual 88, 3) := by decide +kernel
theorem dX9_knowsAll_16 : decode cX9_knowsAll 16 = .ok (.if_icmp .ne 7, 3) := by decide +kernel
theorem dX9_knowsAll_19 : decode cX9_knowsAll 19 = .ok (.iconst 1, 1) := by decide +kernel
theorem dX9_knowsAll_20 : decode cX9_knowsAll 20 = .ok (.goto 4, 3) := by decide +kernel
theorem dX9_knowsAll_23 : decode cX9_knowsAll 23 = .ok (.iconst 0, 1) := by decide +kernel
theorem dX9_knowsAll_24 : decode cX9_knowsAll 24 = .ok (.ireturn, 1) := by decide +kernel
theorem dX9_isSame_0 : decode cX9_isSame 0 = .ok (.aload_n 0, 1) := by decide +kernel
theorem dX9_isSame_1 : decode cX9_isSame 1 = .ok (.iconst 0, 1) := by decide +kernel
theorem dX9_isSame_2 : decode cX9_isSame 2 = .ok (.invokevirtual 131, 3) := by decide +kernel
theorem dX9_isSame_5 : decode cX9_isSame 5 = .ok (.ifCond .eq 15, 3) := by decide +kernel
theorem dX9_isSame_8 : decode cX9_isSame 8 = .ok (.aload_n 0, 1) := by decide +kernel
theorem dX9_isSame_9 : decode cX9_isSame 9 = .ok (.iconst 1, 1) := by decide +kernel
theorem dX9_isSame_10 : decode cX9_isSame 10 = .ok (.invokevirtual 131, 3) := by decide +kernel
theorem dX9_isSame_13 : decode cX9_isSame 13 = .ok (.ifCond .eq 7, 3) := by decide +kernel
theorem dX9_isSame_16 : decode cX9_isSame 16 = .ok (.iconst 1, 1) := by decide +kernel
theorem dX9_isSame_17 : decode cX9_isSame 17 = .ok (.goto 4, 3) := by decide +kernel
theorem dX9_isSame_20 : decode cX9_isSame 20 = .ok (.iconst 0, 1) := by decide +kernel
theorem dX9_isSame_21 : decode cX9_isSame 21 = .ok (.istore_n 1, 1) := by decide +kernel
theorem dX9_isSame_22 : decode cX9_isSame 22 = .ok (.iconst 0, 1) := by decide +kernel
theorem dX9_isSame_23 : decode cX9_isSame 23 = .ok (.istore_n 2, 1) := by decide +kernel
theorem dX9_isSame_24 : decode cX9_isSame 24 = .ok (.iload_n 2, 1) := by decide +kernel
theorem dX9_isSame_25 : decode cX9_isSame 25 = .ok (.aload_n 0, 1) := by decide +kernel
theorem dX9_isSame_26 : decode cX9_isSame 26 = .ok (.invokevirtual 88, 3) := by decide +kernel
theorem dX9_isSame_29 : decode cX9_isSame 29 = .ok (.if_icmp .ge 34, 3) := by decide +kernel
theorem dX9_isSame_32 : decode cX9_isSame 32 = .ok (.iload_n 1, 1) := by decide +kernel
theorem dX9_isSame_33 : decode cX9_isSame 33 = .ok (.ifCond .eq 22, 3) := by decide +kernel
theorem dX9_isSame_36 : decode cX9_isSame 36 = .ok (.aload_n 0, 1) := by decide +kernel
theorem dX9_isSame_37 : decode cX9_isSame 37 = .ok (.iconst 0, 1) := by decide +kernel
theorem dX9_isSame_38 : decode cX9_isSame 38 = .ok (.iload_n 2, 1) := by decide +kernel
theorem dX9_isSame_39 : decode cX9_isSame 39 = .ok (.invokevirtual 91, 3) := by decide +kernel
theorem dX9_isSame_42 : decode cX9_isSame 42 = .ok (.aload_n 0, 1) := by decide +kernel
theorem dX9_isSame_43 : decode cX9_isSame 43 = .ok (.iconst 1, 1) := by decide +kernel
theorem dX9_isSame_44 : decode cX9_isSame 44 = .ok (.iload_n 2, 1) := by decide +kernel
theorem dX9_isSame_45 : decode cX9_isSame 45 = .ok (.invokevirtual 91, 3) := by decide +kernel
theorem dX9_isSame_48 : decode cX9_isSame 48 = .ok (.if_icmp .ne 7, 3) := by decide +kernel
theorem dX9_isSame_51 : decode cX9_isSame 51 = .ok (.iconst 1, 1) := by decide +kernel
theorem dX9_isSame_52 : decode cX9_isSame 52 = .ok (.goto 4, 3) := by decide +kernel
theorem dX9_isSame_55 : decode cX9_isSame 55 = .ok (.iconst 0, 1) := by decide +kernel
theorem dX9_isSame_56 : decode cX9_isSame 56 = .ok (.istore_n 1, 1) := by decide +kernel
theorem dX9_isSame_57 : decode cX9_isSame 57 = .ok (.iinc 2 1, 3) := by decide +kernel
theorem dX9_isSame_60 : decode cX9_isSame 60 = .ok (.goto (-36), 3) := by decide +kernel
theorem dX9_isSame_63 : decode cX9_isSame 63 = .ok (.iload_n 1, 1) := by decide +kernel
theorem dX9_isSame_64 : decode cX9_isSame 64 = .ok (.ifCond .eq 7, 3) := by decide +kernel
theorem dX9_isSame_67 : decode cX9_isSame 67 = .ok (.iconst 1, 1) := by decide +kernel
theorem dX9_isSame_68 : decode cX9_isSame 68 = .ok (.goto 4, 3) := by decide +kernel
theorem dX9_isSame_71 : decode cX9_isSame 71 = .ok (.iconst 0, 1) := by decide +kernel
theorem dX9_isSame_72 : decode cX9_isSame 72 = .ok (.ireturn, 1) := by decide +kernel
theorem dX9_sail_0 : decode cX9_sail 0 = .ok (.iload_n 1, 1) := by decide +kernel
theorem dX9_sail_1 : decode cX9_sail 1 = .ok (.invokestatic 69, 3) := by decide +kernel
theorem dX9_sail_4 : decode cX9_sail 4 = .ok (.ifCond .ne 6, 3) := by decide +kernel
theorem dX9_sail_7 : decode cX9_sail 7 = .ok (.bipush (-2), 2) := by decide +kernel
theorem dX9_sail_9 : decode cX9_sail 9 = .ok (.ireturn, 1) := by decide +kernel
theorem dX9_sail_10 : decode cX9_sail 10 = .ok (.aload_n 0, 1) := by decide +kernel
theorem dX9_sail_11 : decode cX9_sail 11 = .ok (.invokevirtual 57, 3) := by decide +kernel
theorem dX9_sail_14 : decode cX9_sail 14 = .ok (.aload_n 0, 1) := by decide +kernel
theorem dX9_sail_15 : decode cX9_sail 15 = .ok (.getfield 7, 3) := by decide +kernel
theorem dX9_sail_18 : decode cX9_sail 18 = .ok (.iconst 3, 1) := by decide +kernel
theorem dX9_sail_19 : decode cX9_sail 19 = .ok (.iaload, 1) := by decide +kernel
theorem dX9_sail_20 : decode cX9_sail 20 = .ok (.istore_n 2, 1) := by decide +kernel
theorem dX9_sail_21 : decode cX9_sail 21 = .ok (.aload_n 0, 1) := by decide +kernel
theorem dX9_sail_22 : decode cX9_sail 22 = .ok (.getfield 7, 3) := by decide +kernel
theorem dX9_sail_25 : decode cX9_sail 25 = .ok (.iconst 3, 1) := by decide +kernel
theorem dX9_sail_26 : decode cX9_sail 26 = .ok (.iload_n 1, 1) := by decide +kernel
theorem dX9_sail_27 : decode cX9_sail 27 = .ok (.iastore, 1) := by decide +kernel
theorem dX9_sail_28 : decode cX9_sail 28 = .ok (.iload_n 2, 1) := by decide +kernel
theorem dX9_sail_29 : decode cX9_sail 29 = .ok (.ireturn, 1) := by decide +kernel
theorem dX9_answer_0 : decode cX9_answer 0 = .ok (.aload_n 0, 1) := by decide +kernel
theorem dX9_answer_1 : decode cX9_answer 1 = .ok (.invokevirtual 88, 3) := by decide +kernel
theorem dX9_answer_4 : decode cX9_answer 4 = .ok (.ifCond .eq 36, 3) := by decide +kernel
theorem dX9_answer_7 : decode cX9_answer 7 = .ok (.aload_n 0, 1) := by decide +kernel
theorem dX9_answer_8 : decode cX9_answer 8 = .ok (.getfield 7, 3) := by decide +kernel
theorem dX9_answer_11 : decode cX9_answer 11 = .ok (.iconst 4, 1) := by decide +kernel
theorem dX9_answer_12 : decode cX9_answer 12 = .ok (.iaload, 1) := by decide +kernel
theorem dX9_answer_13 : decode cX9_answer 13 = .ok (.iconst 2, 1) := by decide +kernel
theorem dX9_answer_14 : decode cX9_answer 14 = .ok (.if_icmp .eq 26, 3) := by decide +kernel
theorem dX9_answer_17 : decode cX9_answer 17 = .ok (.aload_n 0, 1) := by decide +kernel
theorem dX9_answer_18 : decode cX9_answer 18 = .ok (.getfield 7, 3) := by decide +kernel
theorem dX9_answer_21 : decode cX9_answer 21 = .ok (.iconst 4, 1) := by decide +kernel
theorem dX9_answer_22 : decode cX9_answer 22 = .ok (.iaload, 1) := by decide +kernel
theorem dX9_answer_23 : decode cX9_answer 23 = .ok (.iconst 1, 1) := by decide +kernel
theorem dX9_answer_24 : decode cX9_answer 24 = .ok (.if_icmp .ne 19, 3) := by decide +kernel
theorem dX9_answer_27 : decode cX9_answer 27 = .ok (.aload_n 0, 1) := by decide +kernel
theorem dX9_answer_28 : decode cX9_answer 28 = .ok (.aload_n 0, 1) := by decide +kernel
theorem dX9_answer_29 : decode cX9_answer 29 = .ok (.getfield 7, 3) := by decide +kernel
theorem dX9_answer_32 : decode cX9_answer 32 = .ok (.iconst 3, 1) := by decide +kernel
theorem dX9_answer_33 : decode cX9_answer 33 = .ok (.iaload, 1) := by decide +kernel
theorem dX9_answer_34 : decode cX9_answer 34 = .ok (.invokevirtual 131, 3) := by decide +kernel
theorem dX9_answer_37 : decode cX9_answer 37 = .ok (.ifCond .ne 6, 3) := by decide +kernel
theorem dX9_answer_40 : decode cX9_answer 40 = .ok (.bipush (-3), 2) := by decide +kernel
theorem dX9_answer_42 : decode cX9_answer 42 = .ok (.ireturn, 1) := by decide +kernel
theorem dX9_answer_43 : decode cX9_answer 43 = .ok (.aload_n 0, 1) := by decide +kernel
theorem dX9_answer_44 : decode cX9_answer 44 = .ok (.invokevirtual 34, 3) := by decide +kernel
theorem dX9_answer_47 : decode cX9_answer 47 = .ok (.aload_n 0, 1) := by decide +kernel
theorem dX9_answer_48 : decode cX9_answer 48 = .ok (.getfield 7, 3) := by decide +kernel
theorem dX9_answer_51 : decode cX9_answer 51 = .ok (.iconst 4, 1) := by decide +kernel
theorem dX9_answer_52 : decode cX9_answer 52 = .ok (.dup2, 1) := by decide +kernel
theorem dX9_answer_53 : decode cX9_answer 53 = .ok (.iaload, 1) := by decide +kernel
theorem dX9_answer_54 : decode cX9_answer 54 = .ok (.iconst 1, 1) := by decide +kernel
theorem dX9_answer_55 : decode cX9_answer 55 = .ok (.iadd, 1) := by decide +kernel
theorem dX9_answer_56 : decode cX9_answer 56 = .ok (.iastore, 1) := by decide +kernel
theorem dX9_answer_57 : decode cX9_answer 57 = .ok (.aload_n 0, 1) := by decide +kernel
theorem dX9_answer_58 : decode cX9_answer 58 = .ok (.getfield 7, 3) := by decide +kernel
theorem dX9_answer_61 : decode cX9_answer 61 = .ok (.iconst 4, 1) := by decide +kernel
theorem dX9_answer_62 : decode cX9_answer 62 = .ok (.iaload, 1) := by decide +kernel
theorem dX9_answer_63 : decode cX9_answer 63 = .ok (.ireturn, 1) := by decide +kernel
theorem dX9_logged_0 : decode cX9_logged 0 = .ok (.iload_n 1, 1) := by decide +kernel
theorem dX9_logged_1 : decode cX9_logged 1 = .ok (.iconst 0, 1) := by decide +kernel
theorem dX9_logged_2 : decode cX9_logged 2 = .ok (.aload_n 0, 1) := by decide +kernel
theorem dX9_logged_3 : decode cX9_logged 3 = .ok (.getfield 7, 3) := by decide +kernel
theorem dX9_logged_6 : decode cX9_logged 6 = .ok (.bipush 6, 2) := by decide +kernel
theorem dX9_logged_8 : decode cX9_logged 8 = .ok (.iaload, 1) := by decide +kernel
theorem dX9_logged_9 : decode cX9_logged 9 = .ok (.iconst 1, 1) := by decide +kernel
theorem dX9_logged_10 : decode cX9_logged 10 = .ok (.isub, 1) := by decide +kernel
theorem dX9_logged_11 : decode cX9_logged 11 = .ok (.invokestatic 26, 3) := by decide +kernel
theorem dX9_logged_14 : decode cX9_logged 14 = .ok (.ifCond .ne 5, 3) := by decide +kernel
theorem dX9_logged_17 : decode cX9_logged 17 = .ok (.iconst (-1), 1) := by decide +kernel
theorem dX9_logged_18 : decode cX9_logged 18 = .ok (.ireturn, 1) := by decide +kernel
theorem dX9_logged_19 : decode cX9_logged 19 = .ok (.iload_n 2, 1) := by decide +kernel
theorem dX9_logged_20 : decode cX9_logged 20 = .ok (.iconst 0, 1) := by decide +kernel
theorem dX9_logged_21 : decode cX9_logged 21 = .ok (.iconst 5, 1) := by decide +kernel
theorem dX9_logged_22 : decode cX9_logged 22 = .ok (.invokestatic 26, 3) := by decide +kernel
theorem dX9_logged_25 : decode cX9_logged 25 = .ok (.ifCond .ne 6, 3) := by decide +kernel
theorem dX9_logged_28 : decode cX9_logged 28 = .ok (.bipush (-2), 2) := by decide +kernel
theorem dX9_logged_30 : decode cX9_logged 30 = .ok (.ireturn, 1) := by decide +kernel
theorem dX9_logged_31 : decode cX9_logged 31 = .ok (.bipush 87, 2) := by decide +kernel
theorem dX9_logged_33 : decode cX9_logged 33 = .ok (.bipush 6, 2) := by decide +kernel
theorem dX9_logged_35 : decode cX9_logged 35 = .ok (.iload_n 1, 1) := by decide +kernel
theorem dX9_logged_36 : decode cX9_logged 36 = .ok (.imul, 1) := by decide +kernel
theorem dX9_logged_37 : decode cX9_logged 37 = .ok (.iadd, 1) := by decide +kernel
theorem dX9_logged_38 : decode cX9_logged 38 = .ok (.istore_n 3, 1) := by decide +kernel
theorem dX9_logged_39 : decode cX9_logged 39 = .ok (.iload_n 2, 1) := by decide +kernel
theorem dX9_logged_40 : decode cX9_logged 40 = .ok (.aload_n 0, 1) := by decide +kernel
theorem dX9_logged_41 : decode cX9_logged 41 = .ok (.getfield 7, 3) := by decide +kernel
theorem dX9_logged_44 : decode cX9_logged 44 = .ok (.iload_n 3, 1) := by decide +kernel
theorem dX9_logged_45 : decode cX9_logged 45 = .ok (.iaload, 1) := by decide +kernel
theorem dX9_logged_46 : decode cX9_logged 46 = .ok (.if_icmp .le 7, 3) := by decide +kernel
theorem dX9_logged_49 : decode cX9_logged 49 = .ok (.iconst (-1), 1) := by decide +kernel
theorem dX9_logged_50 : decode cX9_logged 50 = .ok (.goto 11, 3) := by decide +kernel
theorem dX9_logged_53 : decode cX9_logged 53 = .ok (.aload_n 0, 1) := by decide +kernel
theorem dX9_logged_54 : decode cX9_logged 54 = .ok (.getfield 7, 3) := by decide +kernel
theorem dX9_logged_57 : decode cX9_logged 57 = .ok (.iload_n 3, 1) := by decide +kernel
theorem dX9_logged_58 : decode cX9_logged 58 = .ok (.iload_n 2, 1) := by decide +kernel
theorem dX9_logged_59 : decode cX9_logged 59 = .ok (.iadd, 1) := by decide +kernel
theorem dX9_logged_60 : decode cX9_logged 60 = .ok (.iaload, 1) := by decide +kernel
theorem dX9_logged_61 : decode cX9_logged 61 = .ok (.ireturn, 1) := by decide +kernel
theorem dX9_total_0 : decode cX9_total 0 = .ok (.iload_n 1, 1) := by decide +kernel
theorem dX9_total_1 : decode cX9_total 1 = .ok (.tableswitch 123 0 9 #[55, 62, 69, 76, 81, 86, 93, 100, 107, 115], 55) := by decide +kernel
theorem dX9_total_56 : decode cX9_total 56 = .ok (.aload_n 0, 1) := by decide +kernel
theorem dX9_total_57 : decode cX9_total 57 = .ok (.getfield 7, 3) := by decide +kernel
theorem dX9_total_60 : decode cX9_total 60 = .ok (.iconst 1, 1) := by decide +kernel
theorem dX9_total_61 : decode cX9_total 61 = .ok (.iaload, 1) := by decide +kernel
theorem dX9_total_62 : decode cX9_total 62 = .ok (.ireturn, 1) := by decide +kernel
theorem dX9_total_63 : decode cX9_total 63 = .ok (.aload_n 0, 1) := by decide +kernel
theorem dX9_total_64 : decode cX9_total 64 = .ok (.getfield 7, 3) := by decide +kernel
theorem dX9_total_67 : decode cX9_total 67 = .ok (.iconst 2, 1) := by decide +kernel
theorem dX9_total_68 : decode cX9_total 68 = .ok (.iaload, 1) := by decide +kernel
theorem dX9_total_69 : decode cX9_total 69 = .ok (.ireturn, 1) := by decide +kernel
theorem dX9_total_70 : decode cX9_total 70 = .ok (.aload_n 0, 1) := by decide +kernel
theorem dX9_total_71 : decode cX9_total 71 = .ok (.getfield 7, 3) := by decide +kernel
theorem dX9_total_74 : decode cX9_total 74 = .ok (.iconst 0, 1) := by decide +kernel
theorem dX9_total_75 : decode cX9_total 75 = .ok (.iaload, 1) := by decide +kernel
theorem dX9_total_76 : decode cX9_total 76 = .ok (.ireturn, 1) := by decide +kernel
theorem dX9_total_77 : decode cX9_total 77 = .ok (.aload_n 0, 1) := by decide +kernel
theorem dX9_total_78 : decode cX9_total 78 = .ok (.invokevirtual 45, 3) := by decide +kernel
theorem dX9_total_81 : decode cX9_total 81 = .ok (.ireturn, 1) := by decide +kernel
theorem dX9_total_82 : decode cX9_total 82 = .ok (.aload_n 0, 1) := by decide +kernel
theorem dX9_total_83 : decode cX9_total 83 = .ok (.invokevirtual 88, 3) := by decide +kernel
theorem dX9_total_86 : decode cX9_total 86 = .ok (.ireturn, 1) := by decide +kernel
theorem dX9_total_87 : decode cX9_total 87 = .ok (.aload_n 0, 1) := by decide +kernel
theorem dX9_total_88 : decode cX9_total 88 = .ok (.getfield 7, 3) := by decide +kernel
theorem dX9_total_91 : decode cX9_total 91 = .ok (.iconst 5, 1) := by decide +kernel
theorem dX9_total_92 : decode cX9_total 92 = .ok (.iaload, 1) := by decide +kernel
theorem dX9_total_93 : decode cX9_total 93 = .ok (.ireturn, 1) := by decide +kernel
theorem dX9_total_94 : decode cX9_total 94 = .ok (.aload_n 0, 1) := by decide +kernel
theorem dX9_total_95 : decode cX9_total 95 = .ok (.getfield 7, 3) := by decide +kernel
theorem dX9_total_98 : decode cX9_total 98 = .ok (.iconst 3, 1) := by decide +kernel
theorem dX9_total_99 : decode cX9_total 99 = .ok (.iaload, 1) := by decide +kernel
theorem dX9_total_100 : decode cX9_total 100 = .ok (.ireturn, 1) := by decide +kernel
theorem dX9_total_101 : decode cX9_total 101 = .ok (.aload_n 0, 1) := by decide +kernel
theorem dX9_total_102 : decode cX9_total 102 = .ok (.getfield 7, 3) := by decide +kernel
theorem dX9_total_105 : decode cX9_total 105 = .ok (.iconst 4, 1) := by decide +kernel
theorem dX9_total_106 : decode cX9_total 106 = .ok (.iaload, 1) := by decide +kernel
theorem dX9_total_107 : decode cX9_total 107 = .ok (.ireturn, 1) := by decide +kernel
theorem dX9_total_108 : decode cX9_total 108 = .ok (.aload_n 0, 1) := by decide +kernel
theorem dX9_total_109 : decode cX9_total 109 = .ok (.getfield 7, 3) := by decide +kernel
theorem dX9_total_112 : decode cX9_total 112 = .ok (.bipush 6, 2) := by decide +kernel
theorem dX9_total_114 : decode cX9_total 114 = .ok (.iaload, 1) := by decide +kernel
theorem dX9_total_115 : decode cX9_total 115 = .ok (.ireturn, 1) := by decide +kernel
theorem dX9_total_116 : decode cX9_total 116 = .ok (.aload_n 0, 1) := by decide +kernel
theorem dX9_total_117 : decode cX9_total 117 = .ok (.getfield 7, 3) := by decide +kernel
theorem dX9_total_120 : decode cX9_total 120 = .ok (.bipush 7, 2) := by decide +kernel
theorem dX9_total_122 : decode cX9_total 122 = .ok (.iaload, 1) := by decide +kernel
theorem dX9_total_123 : decode cX9_total 123 = .ok (.ireturn, 1) := by decide +kernel
theorem dX9_total_124 : decode cX9_total 124 = .ok (.bipush (-2), 2) := by decide +kernel
theorem dX9_total_126 : decode cX9_total 126 = .ok (.ireturn, 1) := by decide +kernel
theorem dX9_leastWind_0 : decode cX9_leastWind 0 = .ok (.iload_n 1, 1) := by decide +kernel
theorem dX9_leastWind_1 : decode cX9_leastWind 1 = .ok (.invokestatic 69, 3) := by decide +kernel
theorem dX9_leastWind_4 : decode cX9_leastWind 4 = .ok (.ifCond .ne 6, 3) := by decide +kernel
theorem dX9_leastWind_7 : decode cX9_leastWind 7 = .ok (.bipush (-2), 2) := by decide +kernel
theorem dX9_leastWind_9 : decode cX9_leastWind 9 = .ok (.ireturn, 1) := by decide +kernel
theorem dX9_leastWind_10 : decode cX9_leastWind 10 = .ok (.aload_n 0, 1) := by decide +kernel
theorem dX9_leastWind_11 : decode cX9_leastWind 11 = .ok (.getfield 7, 3) := by decide +kernel
theorem dX9_leastWind_14 : decode cX9_leastWind 14 = .ok (.iconst 1, 1) := by decide +kernel
theorem dX9_leastWind_15 : decode cX9_leastWind 15 = .ok (.iaload, 1) := by decide +kernel
theorem dX9_leastWind_16 : decode cX9_leastWind 16 = .ok (.istore_n 2, 1) := by decide +kernel
theorem dX9_leastWind_17 : decode cX9_leastWind 17 = .ok (.bipush (-6), 2) := by decide +kernel
theorem dX9_leastWind_19 : decode cX9_leastWind 19 = .ok (.istore_n 3, 1) := by decide +kernel
theorem dX9_leastWind_20 : decode cX9_leastWind 20 = .ok (.bipush 9, 2) := by decide +kernel
theorem dX9_leastWind_22 : decode cX9_leastWind 22 = .ok (.istore 4, 2) := by decide +kernel
theorem dX9_leastWind_24 : decode cX9_leastWind 24 = .ok (.iload 4, 2) := by decide +kernel
theorem dX9_leastWind_26 : decode cX9_leastWind 26 = .ok (.ifCond .lt 32, 3) := by decide +kernel
theorem dX9_leastWind_29 : decode cX9_leastWind 29 = .ok (.aload_n 0, 1) := by decide +kernel
theorem dX9_leastWind_30 : decode cX9_leastWind 30 = .ok (.getfield 7, 3) := by decide +kernel
theorem dX9_leastWind_33 : decode cX9_leastWind 33 = .ok (.iconst 1, 1) := by decide +kernel
theorem dX9_leastWind_34 : decode cX9_leastWind 34 = .ok (.iload 4, 2) := by decide +kernel
theorem dX9_leastWind_36 : decode cX9_leastWind 36 = .ok (.iastore, 1) := by decide +kernel
theorem dX9_leastWind_37 : decode cX9_leastWind 37 = .ok (.aload_n 0, 1) := by decide +kernel
theorem dX9_leastWind_38 : decode cX9_leastWind 38 = .ok (.iload_n 1, 1) := by decide +kernel
theorem dX9_leastWind_39 : decode cX9_leastWind 39 = .ok (.invokevirtual 131, 3) := by decide +kernel
theorem dX9_leastWind_42 : decode cX9_leastWind 42 = .ok (.ifCond .eq 8, 3) := by decide +kernel
theorem dX9_leastWind_45 : decode cX9_leastWind 45 = .ok (.iload 4, 2) := by decide +kernel
theorem dX9_leastWind_47 : decode cX9_leastWind 47 = .ok (.goto 4, 3) := by decide +kernel
theorem dX9_leastWind_50 : decode cX9_leastWind 50 = .ok (.iload_n 3, 1) := by decide +kernel
theorem dX9_leastWind_51 : decode cX9_leastWind 51 = .ok (.istore_n 3, 1) := by decide +kernel
theorem dX9_leastWind_52 : decode cX9_leastWind 52 = .ok (.iinc 4 (-1), 3) := by decide +kernel
theorem dX9_leastWind_55 : decode cX9_leastWind 55 = .ok (.goto (-31), 3) := by decide +kernel
theorem dX9_leastWind_58 : decode cX9_leastWind 58 = .ok (.aload_n 0, 1) := by decide +kernel
theorem dX9_leastWind_59 : decode cX9_leastWind 59 = .ok (.getfield 7, 3) := by decide +kernel
theorem dX9_leastWind_62 : decode cX9_leastWind 62 = .ok (.iconst 1, 1) := by decide +kernel
theorem dX9_leastWind_63 : decode cX9_leastWind 63 = .ok (.iload_n 2, 1) := by decide +kernel
theorem dX9_leastWind_64 : decode cX9_leastWind 64 = .ok (.iastore, 1) := by decide +kernel
theorem dX9_leastWind_65 : decode cX9_leastWind 65 = .ok (.iload_n 3, 1) := by decide +kernel
theorem dX9_leastWind_66 : decode cX9_leastWind 66 = .ok (.ireturn, 1) := by decide +kernel
theorem dX9_ifTurned_0 : decode cX9_ifTurned 0 = .ok (.iload_n 1, 1) := by decide +kernel
theorem dX9_ifTurned_1 : decode cX9_ifTurned 1 = .ok (.invokestatic 69, 3) := by decide +kernel
theorem dX9_ifTurned_4 : decode cX9_ifTurned 4 = .ok (.ifCond .ne 6, 3) := by decide +kernel
theorem dX9_ifTurned_7 : decode cX9_ifTurned 7 = .ok (.bipush (-2), 2) := by decide +kernel
theorem dX9_ifTurned_9 : decode cX9_ifTurned 9 = .ok (.ireturn, 1) := by decide +kernel
theorem dX9_ifTurned_10 : decode cX9_ifTurned 10 = .ok (.aload_n 0, 1) := by decide +kernel
theorem dX9_ifTurned_11 : decode cX9_ifTurned 11 = .ok (.getfield 7, 3) := by decide +kernel
theorem dX9_ifTurned_14 : decode cX9_ifTurned 14 = .ok (.iconst 2, 1) := by decide +kernel
theorem dX9_ifTurned_15 : decode cX9_ifTurned 15 = .ok (.iconst 1, 1) := by decide +kernel
theorem dX9_ifTurned_16 : decode cX9_ifTurned 16 = .ok (.aload_n 0, 1) := by decide +kernel
theorem dX9_ifTurned_17 : decode cX9_ifTurned 17 = .ok (.getfield 7, 3) := by decide +kernel
theorem dX9_ifTurned_20 : decode cX9_ifTurned 20 = .ok (.iconst 2, 1) := by decide +kernel
theorem dX9_ifTurned_21 : decode cX9_ifTurned 21 = .ok (.iaload, 1) := by decide +kernel
theorem dX9_ifTurned_22 : decode cX9_ifTurned 22 = .ok (.isub, 1) := by decide +kernel
theorem dX9_ifTurned_23 : decode cX9_ifTurned 23 = .ok (.iastore, 1) := by decide +kernel
theorem dX9_ifTurned_24 : decode cX9_ifTurned 24 = .ok (.aload_n 0, 1) := by decide +kernel
theorem dX9_ifTurned_25 : decode cX9_ifTurned 25 = .ok (.iload_n 1, 1) := by decide +kernel
theorem dX9_ifTurned_26 : decode cX9_ifTurned 26 = .ok (.invokevirtual 128, 3) := by decide +kernel
theorem dX9_ifTurned_29 : decode cX9_ifTurned 29 = .ok (.istore_n 2, 1) := by decide +kernel
theorem dX9_ifTurned_30 : decode cX9_ifTurned 30 = .ok (.aload_n 0, 1) := by decide +kernel
theorem dX9_ifTurned_31 : decode cX9_ifTurned 31 = .ok (.getfield 7, 3) := by decide +kernel
theorem dX9_ifTurned_34 : decode cX9_ifTurned 34 = .ok (.iconst 2, 1) := by decide +kernel
theorem dX9_ifTurned_35 : decode cX9_ifTurned 35 = .ok (.iconst 1, 1) := by decide +kernel
theorem dX9_ifTurned_36 : decode cX9_ifTurned 36 = .ok (.aload_n 0, 1) := by decide +kernel
theorem dX9_ifTurned_37 : decode cX9_ifTurned 37 = .ok (.getfield 7, 3) := by decide +kernel
theorem dX9_ifTurned_40 : decode cX9_ifTurned 40 = .ok (.iconst 2, 1) := by decide +kernel
theorem dX9_ifTurned_41 : decode cX9_ifTurned 41 = .ok (.iaload, 1) := by decide +kernel
theorem dX9_ifTurned_42 : decode cX9_ifTurned 42 = .ok (.isub, 1) := by decide +kernel
theorem dX9_ifTurned_43 : decode cX9_ifTurned 43 = .ok (.iastore, 1) := by decide +kernel
theorem dX9_ifTurned_44 : decode cX9_ifTurned 44 = .ok (.iload_n 2, 1) := by decide +kernel
theorem dX9_ifTurned_45 : decode cX9_ifTurned 45 = .ok (.ireturn, 1) := by decide +kernel
theorem dX9_mendingExchange_0 : decode cX9_mendingExchange 0 = .ok (.aload_n 0, 1) := by decide +kernel
theorem dX9_mendingExchange_1 : decode cX9_mendingExchange 1 = .ok (.invokevirtual 134, 3) := by decide +kernel
theorem dX9_mendingExchange_4 : decode cX9_mendingExchange 4 = .ok (.iconst 1, 1) := by decide +kernel
theorem dX9_mendingExchange_5 : decode cX9_mendingExchange 5 = .ok (.if_icmp .ne 5, 3) := by decide +kernel
theorem dX9_mendingExchange_8 : decode cX9_mendingExchange 8 = .ok (.iconst 0, 1) := by decide +kernel
theorem dX9_mendingExchange_9 : decode cX9_mendingExchange 9 = .ok (.ireturn, 1) := by decide +kernel
theorem dX9_mendingExchange_10 : decode cX9_mendingExchange 10 = .ok (.bipush (-6), 2) := by decide +kernel
theorem dX9_mendingExchange_12 : decode cX9_mendingExchange 12 = .ok (.istore_n 1, 1) := by decide +kernel
theorem dX9_mendingExchange_13 : decode cX9_mendingExchange 13 = .ok (.iconst 4, 1) := by decide +kernel
theorem dX9_mendingExchange_14 : decode cX9_mendingExchange 14 = .ok (.istore_n 2, 1) := by decide +kernel
theorem dX9_mendingExchange_15 : decode cX9_mendingExchange 15 = .ok (.iload_n 2, 1) := by decide +kernel
theorem dX9_mendingExchange_16 : decode cX9_mendingExchange 16 = .ok (.ifCond .lt 53, 3) := by decide +kernel
theorem dX9_mendingExchange_19 : decode cX9_mendingExchange 19 = .ok (.iconst 4, 1) := by decide +kernel
theorem dX9_mendingExchange_20 : decode cX9_mendingExchange 20 = .ok (.istore_n 3, 1) := by decide +kernel
theorem dX9_mendingExchange_21 : decode cX9_mendingExchange 21 = .ok (.iload_n 3, 1) := by decide +kernel
theorem dX9_mendingExchange_22 : decode cX9_mendingExchange 22 = .ok (.iload_n 2, 1) := by decide +kernel
theorem dX9_mendingExchange_23 : decode cX9_mendingExchange 23 = .ok (.if_icmp .le 40, 3) := by decide +kernel
theorem dX9_mendingExchange_26 : decode cX9_mendingExchange 26 = .ok (.aload_n 0, 1) := by decide +kernel
theorem dX9_mendingExchange_27 : decode cX9_mendingExchange 27 = .ok (.iload_n 2, 1) := by decide +kernel
theorem dX9_mendingExchange_28 : decode cX9_mendingExchange 28 = .ok (.iload_n 3, 1) := by decide +kernel
theorem dX9_mendingExchange_29 : decode cX9_mendingExchange 29 = .ok (.invokevirtual 85, 3) := by decide +kernel
theorem dX9_mendingExchange_32 : decode cX9_mendingExchange 32 = .ok (.aload_n 0, 1) := by decide +kernel
theorem dX9_mendingExchange_33 : decode cX9_mendingExchange 33 = .ok (.invokevirtual 134, 3) := by decide +kernel
theorem dX9_mendingExchange_36 : decode cX9_mendingExchange 36 = .ok (.iconst 1, 1) := by decide +kernel
theorem dX9_mendingExchange_37 : decode cX9_mendingExchange 37 = .ok (.if_icmp .ne 12, 3) := by decide +kernel
theorem dX9_mendingExchange_40 : decode cX9_mendingExchange 40 = .ok (.bipush 10, 2) := by decide +kernel
theorem dX9_mendingExchange_42 : decode cX9_mendingExchange 42 = .ok (.iload_n 2, 1) := by decide +kernel
theorem dX9_mendingExchange_43 : decode cX9_mendingExchange 43 = .ok (.imul, 1) := by decide +kernel
theorem dX9_mendingExchange_44 : decode cX9_mendingExchange 44 = .ok (.iload_n 3, 1) := by decide +kernel
theorem dX9_mendingExchange_45 : decode cX9_mendingExchange 45 = .ok (.iadd, 1) := by decide +kernel
theorem dX9_mendingExchange_46 : decode cX9_mendingExchange 46 = .ok (.goto 4, 3) := by decide +kernel
theorem dX9_mendingExchange_49 : decode cX9_mendingExchange 49 = .ok (.iload_n 1, 1) := by decide +kernel
theorem dX9_mendingExchange_50 : decode cX9_mendingExchange 50 = .ok (.istore_n 1, 1) := by decide +kernel
theorem dX9_mendingExchange_51 : decode cX9_mendingExchange 51 = .ok (.aload_n 0, 1) := by decide +kernel
theorem dX9_mendingExchange_52 : decode cX9_mendingExchange 52 = .ok (.iload_n 2, 1) := by decide +kernel
theorem dX9_mendingExchange_53 : decode cX9_mendingExchange 53 = .ok (.iload_n 3, 1) := by decide +kernel
theorem dX9_mendingExchange_54 : decode cX9_mendingExchange 54 = .ok (.invokevirtual 85, 3) := by decide +kernel
theorem dX9_mendingExchange_57 : decode cX9_mendingExchange 57 = .ok (.iinc 3 (-1), 3) := by decide +kernel
theorem dX9_mendingExchange_60 : decode cX9_mendingExchange 60 = .ok (.goto (-39), 3) := by decide +kernel
theorem dX9_mendingExchange_63 : decode cX9_mendingExchange 63 = .ok (.iinc 2 (-1), 3) := by decide +kernel
theorem dX9_mendingExchange_66 : decode cX9_mendingExchange 66 = .ok (.goto (-51), 3) := by decide +kernel
theorem dX9_mendingExchange_69 : decode cX9_mendingExchange 69 = .ok (.iload_n 1, 1) := by decide +kernel
theorem dX9_mendingExchange_70 : decode cX9_mendingExchange 70 = .ok (.ireturn, 1) := by decide +kernel
theorem dX9_lengthOf_0 : decode cX9_lengthOf 0 = .ok (.iload_n 0, 1) := by decide +kernel
theorem dX9_lengthOf_1 : decode cX9_lengthOf 1 = .ok (.bipush 100, 2) := by decide +kernel
theorem dX9_lengthOf_3 : decode cX9_lengthOf 3 = .ok (.if_icmp .ge 7, 3) := by decide +kernel
theorem dX9_lengthOf_6 : decode cX9_lengthOf 6 = .ok (.iconst 1, 1) := by decide +kernel
theorem dX9_lengthOf_7 : decode cX9_lengthOf 7 = .ok (.goto 26, 3) := by decide +kernel
theorem dX9_lengthOf_10 : decode cX9_lengthOf 10 = .ok (.iload_n 0, 1) := by decide +kernel
theorem dX9_lengthOf_11 : decode cX9_lengthOf 11 = .ok (.sipush 1000, 3) := by decide +kernel
theorem dX9_lengthOf_14 : decode cX9_lengthOf 14 = .ok (.if_icmp .ge 7, 3) := by decide +kernel
theorem dX9_lengthOf_17 : decode cX9_lengthOf 17 = .ok (.iconst 2, 1) := by decide +kernel
theorem dX9_lengthOf_18 : decode cX9_lengthOf 18 = .ok (.goto 15, 3) := by decide +kernel
theorem dX9_lengthOf_21 : decode cX9_lengthOf 21 = .ok (.iload_n 0, 1) := by decide +kernel
theorem dX9_lengthOf_22 : decode cX9_lengthOf 22 = .ok (.sipush 10000, 3) := by decide +kernel
theorem dX9_lengthOf_25 : decode cX9_lengthOf 25 = .ok (.if_icmp .ge 7, 3) := by decide +kernel
theorem dX9_lengthOf_28 : decode cX9_lengthOf 28 = .ok (.iconst 3, 1) := by decide +kernel
theorem dX9_lengthOf_29 : decode cX9_lengthOf 29 = .ok (.goto 4, 3) := by decide +kernel
theorem dX9_lengthOf_32 : decode cX9_lengthOf 32 = .ok (.iconst 4, 1) := by decide +kernel
theorem dX9_lengthOf_33 : decode cX9_lengthOf 33 = .ok (.ireturn, 1) := by decide +kernel
theorem dX9_isKnownAs_0 : decode cX9_isKnownAs 0 = .ok (.iconst 1, 1) := by decide +kernel
theorem dX9_isKnownAs_1 : decode cX9_isKnownAs 1 = .ok (.istore_n 2, 1) := by decide +kernel
theorem dX9_isKnownAs_2 : decode cX9_isKnownAs 2 = .ok (.aload_n 0, 1) := by decide +kernel
theorem dX9_isKnownAs_3 : decode cX9_isKnownAs 3 = .ok (.iload_n 1, 1) := by decide +kernel
theorem dX9_isKnownAs_4 : decode cX9_isKnownAs 4 = .ok (.invokevirtual 119, 3) := by decide +kernel
theorem dX9_isKnownAs_7 : decode cX9_isKnownAs 7 = .ok (.istore_n 3, 1) := by decide +kernel
theorem dX9_isKnownAs_8 : decode cX9_isKnownAs 8 = .ok (.iconst 0, 1) := by decide +kernel
theorem dX9_isKnownAs_9 : decode cX9_isKnownAs 9 = .ok (.istore 4, 2) := by decide +kernel
theorem dX9_isKnownAs_11 : decode cX9_isKnownAs 11 = .ok (.iload 4, 2) := by decide +kernel
theorem dX9_isKnownAs_13 : decode cX9_isKnownAs 13 = .ok (.aload_n 0, 1) := by decide +kernel
theorem dX9_isKnownAs_14 : decode cX9_isKnownAs 14 = .ok (.iload_n 1, 1) := by decide +kernel
theorem dX9_isKnownAs_15 : decode cX9_isKnownAs 15 = .ok (.invokevirtual 119, 3) := by decide +kernel
theorem dX9_isKnownAs_18 : decode cX9_isKnownAs 18 = .ok (.invokestatic 137, 3) := by decide +kernel
theorem dX9_isKnownAs_21 : decode cX9_isKnownAs 21 = .ok (.if_icmp .ge 40, 3) := by decide +kernel
theorem dX9_isKnownAs_24 : decode cX9_isKnownAs 24 = .ok (.iload_n 2, 1) := by decide +kernel
theorem dX9_isKnownAs_25 : decode cX9_isKnownAs 25 = .ok (.ifCond .eq 23, 3) := by decide +kernel
theorem dX9_isKnownAs_28 : decode cX9_isKnownAs 28 = .ok (.aload_n 0, 1) := by decide +kernel
theorem dX9_isKnownAs_29 : decode cX9_isKnownAs 29 = .ok (.iconst 0, 1) := by decide +kernel
theorem dX9_isKnownAs_30 : decode cX9_isKnownAs 30 = .ok (.iload_n 3, 1) := by decide +kernel
theorem dX9_isKnownAs_31 : decode cX9_isKnownAs 31 = .ok (.bipush 10, 2) := by decide +kernel
theorem dX9_isKnownAs_33 : decode cX9_isKnownAs 33 = .ok (.irem, 1) := by decide +kernel
theorem dX9_isKnownAs_34 : decode cX9_isKnownAs 34 = .ok (.invokevirtual 122, 3) := by decide +kernel
theorem dX9_isKnownAs_37 : decode cX9_isKnownAs 37 = .ok (.iload_n 3, 1) := by decide +kernel
theorem dX9_isKnownAs_38 : decode cX9_isKnownAs 38 = .ok (.bipush 10, 2) := by decide +kernel
theorem dX9_isKnownAs_40 : decode cX9_isKnownAs 40 = .ok (.irem, 1) := by decide +kernel
theorem dX9_isKnownAs_41 : decode cX9_isKnownAs 41 = .ok (.if_icmp .ne 7, 3) := by decide +kernel
theorem dX9_isKnownAs_44 : decode cX9_isKnownAs 44 = .ok (.iconst 1, 1) := by decide +kernel
theorem dX9_isKnownAs_45 : decode cX9_isKnownAs 45 = .ok (.goto 4, 3) := by decide +kernel
theorem dX9_isKnownAs_48 : decode cX9_isKnownAs 48 = .ok (.iconst 0, 1) := by decide +kernel
theorem dX9_isKnownAs_49 : decode cX9_isKnownAs 49 = .ok (.istore_n 2, 1) := by decide +kernel
theorem dX9_isKnownAs_50 : decode cX9_isKnownAs 50 = .ok (.iload_n 3, 1) := by decide +kernel
theorem dX9_isKnownAs_51 : decode cX9_isKnownAs 51 = .ok (.bipush 10, 2) := by decide +kernel
theorem dX9_isKnownAs_53 : decode cX9_isKnownAs 53 = .ok (.idiv, 1) := by decide +kernel
theorem dX9_isKnownAs_54 : decode cX9_isKnownAs 54 = .ok (.istore_n 3, 1) := by decide +kernel
theorem dX9_isKnownAs_55 : decode cX9_isKnownAs 55 = .ok (.iinc 4 1, 3) := by decide +kernel
theorem dX9_isKnownAs_58 : decode cX9_isKnownAs 58 = .ok (.goto (-47), 3) := by decide +kernel
theorem dX9_isKnownAs_61 : decode cX9_isKnownAs 61 = .ok (.iload_n 2, 1) := by decide +kernel
theorem dX9_isKnownAs_62 : decode cX9_isKnownAs 62 = .ok (.ireturn, 1) := by decide +kernel
theorem dX9_bestEntry_0 : decode cX9_bestEntry 0 = .ok (.iload_n 1, 1) := by decide +kernel
theorem dX9_bestEntry_1 : decode cX9_bestEntry 1 = .ok (.iconst 0, 1) := by decide +kernel
theorem dX9_bestEntry_2 : decode cX9_bestEntry 2 = .ok (.bipush 99, 2) := by decide +kernel
theorem dX9_bestEntry_4 : decode cX9_bestEntry 4 = .ok (.invokestatic 26, 3) := by decide +kernel
theorem dX9_bestEntry_7 : decode cX9_bestEntry 7 = .ok (.ifCond .ne 6, 3) := by decide +kernel
theorem dX9_bestEntry_10 : decode cX9_bestEntry 10 = .ok (.bipush (-2), 2) := by decide +kernel
theorem dX9_bestEntry_12 : decode cX9_bestEntry 12 = .ok (.ireturn, 1) := by decide +kernel
theorem dX9_bestEntry_13 : decode cX9_bestEntry 13 = .ok (.bipush (-6), 2) := by decide +kernel
theorem dX9_bestEntry_15 : decode cX9_bestEntry 15 = .ok (.istore_n 2, 1) := by decide +kernel
theorem dX9_bestEntry_16 : decode cX9_bestEntry 16 = .ok (.iconst 0, 1) := by decide +kernel
theorem dX9_bestEntry_17 : decode cX9_bestEntry 17 = .ok (.istore_n 3, 1) := by decide +kernel
theorem dX9_bestEntry_18 : decode cX9_bestEntry 18 = .ok (.iload_n 3, 1) := by decide +kernel
theorem dX9_bestEntry_19 : decode cX9_bestEntry 19 = .ok (.aload_n 0, 1) := by decide +kernel
theorem dX9_bestEntry_20 : decode cX9_bestEntry 20 = .ok (.getfield 7, 3) := by decide +kernel
theorem dX9_bestEntry_23 : decode cX9_bestEntry 23 = .ok (.iconst 5, 1) := by decide +kernel
theorem dX9_bestEntry_24 : decode cX9_bestEntry 24 = .ok (.iaload, 1) := by decide +kernel
theorem dX9_bestEntry_25 : decode cX9_bestEntry 25 = .ok (.if_icmp .ge 69, 3) := by decide +kernel
theorem dX9_bestEntry_28 : decode cX9_bestEntry 28 = .ok (.aload_n 0, 1) := by decide +kernel
theorem dX9_bestEntry_29 : decode cX9_bestEntry 29 = .ok (.iload_n 3, 1) := by decide +kernel
theorem dX9_bestEntry_30 : decode cX9_bestEntry 30 = .ok (.invokevirtual 116, 3) := by decide +kernel
theorem dX9_bestEntry_33 : decode cX9_bestEntry 33 = .ok (.iload_n 1, 1) := by decide +kernel
theorem dX9_bestEntry_34 : decode cX9_bestEntry 34 = .ok (.if_icmp .ne 15, 3) := by decide +kernel
theorem dX9_bestEntry_37 : decode cX9_bestEntry 37 = .ok (.aload_n 0, 1) := by decide +kernel
theorem dX9_bestEntry_38 : decode cX9_bestEntry 38 = .ok (.iload_n 3, 1) := by decide +kernel
theorem dX9_bestEntry_39 : decode cX9_bestEntry 39 = .ok (.invokevirtual 140, 3) := by decide +kernel
theorem dX9_bestEntry_42 : decode cX9_bestEntry 42 = .ok (.ifCond .eq 7, 3) := by decide +kernel
theorem dX9_bestEntry_45 : decode cX9_bestEntry 45 = .ok (.iconst 1, 1) := by decide +kernel
theorem dX9_bestEntry_46 : decode cX9_bestEntry 46 = .ok (.goto 4, 3) := by decide +kernel
theorem dX9_bestEntry_49 : decode cX9_bestEntry 49 = .ok (.iconst 0, 1) := by decide +kernel
theorem dX9_bestEntry_50 : decode cX9_bestEntry 50 = .ok (.istore 4, 2) := by decide +kernel
theorem dX9_bestEntry_52 : decode cX9_bestEntry 52 = .ok (.iload 4, 2) := by decide +kernel
theorem dX9_bestEntry_54 : decode cX9_bestEntry 54 = .ok (.ifCond .eq 32, 3) := by decide +kernel
theorem dX9_bestEntry_57 : decode cX9_bestEntry 57 = .ok (.iload_n 2, 1) := by decide +kernel
theorem dX9_bestEntry_58 : decode cX9_bestEntry 58 = .ok (.bipush (-6), 2) := by decide +kernel
theorem dX9_bestEntry_60 : decode cX9_bestEntry 60 = .ok (.if_icmp .eq 22, 3) := by decide +kernel
theorem dX9_bestEntry_63 : decode cX9_bestEntry 63 = .ok (.aload_n 0, 1) := by decide +kernel
theorem dX9_bestEntry_64 : decode cX9_bestEntry 64 = .ok (.iload_n 3, 1) := by decide +kernel
theorem dX9_bestEntry_65 : decode cX9_bestEntry 65 = .ok (.invokevirtual 119, 3) := by decide +kernel
theorem dX9_bestEntry_68 : decode cX9_bestEntry 68 = .ok (.invokestatic 137, 3) := by decide +kernel
theorem dX9_bestEntry_71 : decode cX9_bestEntry 71 = .ok (.aload_n 0, 1) := by decide +kernel
theorem dX9_bestEntry_72 : decode cX9_bestEntry 72 = .ok (.iload_n 2, 1) := by decide +kernel
theorem dX9_bestEntry_73 : decode cX9_bestEntry 73 = .ok (.invokevirtual 119, 3) := by decide +kernel
theorem dX9_bestEntry_76 : decode cX9_bestEntry 76 = .ok (.invokestatic 137, 3) := by decide +kernel
theorem dX9_bestEntry_79 : decode cX9_bestEntry 79 = .ok (.if_icmp .ge 7, 3) := by decide +kernel
theorem dX9_bestEntry_82 : decode cX9_bestEntry 82 = .ok (.iload_n 3, 1) := by decide +kernel
theorem dX9_bestEntry_83 : decode cX9_bestEntry 83 = .ok (.goto 4, 3) := by decide +kernel
theorem dX9_bestEntry_86 : decode cX9_bestEntry 86 = .ok (.iload_n 2, 1) := by decide +kernel
theorem dX9_bestEntry_87 : decode cX9_bestEntry 87 = .ok (.istore_n 2, 1) := by decide +kernel
theorem dX9_bestEntry_88 : decode cX9_bestEntry 88 = .ok (.iinc 3 1, 3) := by decide +kernel
theorem dX9_bestEntry_91 : decode cX9_bestEntry 91 = .ok (.goto (-73), 3) := by decide +kernel
theorem dX9_bestEntry_94 : decode cX9_bestEntry 94 = .ok (.iload_n 2, 1) := by decide +kernel
theorem dX9_bestEntry_95 : decode cX9_bestEntry 95 = .ok (.ireturn, 1) := by decide +kernel
theorem dX9_append_0 : decode cX9_append 0 = .ok (.iload_n 1, 1) := by decide +kernel
theorem dX9_append_1 : decode cX9_append 1 = .ok (.bipush 33, 2) := by decide +kernel
theorem dX9_append_3 : decode cX9_append 3 = .ok (.bipush 126, 2) := by decide +kernel
theorem dX9_append_5 : decode cX9_append 5 = .ok (.invokestatic 26, 3) := by decide +kernel
theorem dX9_append_8 : decode cX9_append 8 = .ok (.ifCond .ne 6, 3) := by decide +kernel
theorem dX9_append_11 : decode cX9_append 11 = .ok (.bipush (-2), 2) := by decide +kernel
theorem dX9_append_13 : decode cX9_append 13 = .ok (.ireturn, 1) := by decide +kernel
theorem dX9_append_14 : decode cX9_append 14 = .ok (.aload_n 0, 1) := by decide +kernel
theorem dX9_append_15 : decode cX9_append 15 = .ok (.getfield 143, 3) := by decide +kernel
theorem dX9_append_18 : decode cX9_append 18 = .ok (.bipush 50, 2) := by decide +kernel
theorem dX9_append_20 : decode cX9_append 20 = .ok (.if_icmp .ne 6, 3) := by decide +kernel
theorem dX9_append_23 : decode cX9_append 23 = .ok (.bipush (-4), 2) := by decide +kernel
theorem dX9_append_25 : decode cX9_append 25 = .ok (.ireturn, 1) := by decide +kernel
theorem dX9_append_26 : decode cX9_append 26 = .ok (.aload_n 0, 1) := by decide +kernel
theorem dX9_append_27 : decode cX9_append 27 = .ok (.getfield 19, 3) := by decide +kernel
theorem dX9_append_30 : decode cX9_append 30 = .ok (.aload_n 0, 1) := by decide +kernel
theorem dX9_append_31 : decode cX9_append 31 = .ok (.getfield 143, 3) := by decide +kernel
theorem dX9_append_34 : decode cX9_append 34 = .ok (.iload_n 1, 1) := by decide +kernel
theorem dX9_append_35 : decode cX9_append 35 = .ok (.i2c, 1) := by decide +kernel
theorem dX9_append_36 : decode cX9_append 36 = .ok (.castore, 1) := by decide +kernel
theorem dX9_append_37 : decode cX9_append 37 = .ok (.aload_n 0, 1) := by decide +kernel
theorem dX9_append_38 : decode cX9_append 38 = .ok (.dup, 1) := by decide +kernel
theorem dX9_append_39 : decode cX9_append 39 = .ok (.getfield 143, 3) := by decide +kernel
theorem dX9_append_42 : decode cX9_append 42 = .ok (.iconst 1, 1) := by decide +kernel
theorem dX9_append_43 : decode cX9_append 43 = .ok (.iadd, 1) := by decide +kernel
theorem dX9_append_44 : decode cX9_append 44 = .ok (.putfield 143, 3) := by decide +kernel
theorem dX9_append_47 : decode cX9_append 47 = .ok (.aload_n 0, 1) := by decide +kernel
theorem dX9_append_48 : decode cX9_append 48 = .ok (.getfield 143, 3) := by decide +kernel
theorem dX9_append_51 : decode cX9_append 51 = .ok (.ireturn, 1) := by decide +kernel
theorem dX9_clearText_0 : decode cX9_clearText 0 = .ok (.aload_n 0, 1) := by decide +kernel
theorem dX9_clearText_1 : decode cX9_clearText 1 = .ok (.getfield 143, 3) := by decide +kernel
theorem dX9_clearText_4 : decode cX9_clearText 4 = .ok (.istore_n 1, 1) := by decide +kernel
theorem dX9_clearText_5 : decode cX9_clearText 5 = .ok (.aload_n 0, 1) := by decide +kernel
theorem dX9_clearText_6 : decode cX9_clearText 6 = .ok (.iconst 0, 1) := by decide +kernel
theorem dX9_clearText_7 : decode cX9_clearText 7 = .ok (.putfield 143, 3) := by decide +kernel
theorem dX9_clearText_10 : decode cX9_clearText 10 = .ok (.iload_n 1, 1) := by decide +kernel
theorem dX9_clearText_11 : decode cX9_clearText 11 = .ok (.ireturn, 1) := by decide +kernel
theorem dX9_letter_0 : decode cX9_letter 0 = .ok (.aload_n 0, 1) := by decide +kernel
theorem dX9_letter_1 : decode cX9_letter 1 = .ok (.getfield 146, 3) := by decide +kernel
theorem dX9_letter_4 : decode cX9_letter 4 = .ok (.aload_n 0, 1) := by decide +kernel
theorem dX9_letter_5 : decode cX9_letter 5 = .ok (.getfield 143, 3) := by decide +kernel
theorem dX9_letter_8 : decode cX9_letter 8 = .ok (.if_icmp .ge 15, 3) := by decide +kernel
theorem dX9_letter_11 : decode cX9_letter 11 = .ok (.aload_n 0, 1) := by decide +kernel
theorem dX9_letter_12 : decode cX9_letter 12 = .ok (.getfield 19, 3) := by decide +kernel
theorem dX9_letter_15 : decode cX9_letter 15 = .ok (.aload_n 0, 1) := by decide +kernel
theorem dX9_letter_16 : decode cX9_letter 16 = .ok (.getfield 146, 3) := by decide +kernel
theorem dX9_letter_19 : decode cX9_letter 19 = .ok (.caload, 1) := by decide +kernel
theorem dX9_letter_20 : decode cX9_letter 20 = .ok (.goto 5, 3) := by decide +kernel
theorem dX9_letter_23 : decode cX9_letter 23 = .ok (.bipush (-6), 2) := by decide +kernel
theorem dX9_letter_25 : decode cX9_letter 25 = .ok (.ireturn, 1) := by decide +kernel
theorem dX9_wants_0 : decode cX9_wants 0 = .ok (.aload_n 0, 1) := by decide +kernel
theorem dX9_wants_1 : decode cX9_wants 1 = .ok (.getfield 149, 3) := by decide +kernel
theorem dX9_wants_4 : decode cX9_wants 4 = .ok (.bipush (-6), 2) := by decide +kernel
theorem dX9_wants_6 : decode cX9_wants 6 = .ok (.if_icmp .ne 30, 3) := by decide +kernel
theorem dX9_wants_9 : decode cX9_wants 9 = .ok (.aload_n 0, 1) := by decide +kernel
theorem dX9_wants_10 : decode cX9_wants 10 = .ok (.iload_n 1, 1) := by decide +kernel
theorem dX9_wants_11 : decode cX9_wants 11 = .ok (.ifCond .eq 8, 3) := by decide +kernel
theorem dX9_wants_14 : decode cX9_wants 14 = .ok (.bipush (-6), 2) := by decide +kernel
theorem dX9_wants_16 : decode cX9_wants 16 = .ok (.goto 7, 3) := by decide +kernel
theorem dX9_wants_19 : decode cX9_wants 19 = .ok (.aload_n 0, 1) := by decide +kernel
theorem dX9_wants_20 : decode cX9_wants 20 = .ok (.getfield 146, 3) := by decide +kernel
theorem dX9_wants_23 : decode cX9_wants 23 = .ok (.putfield 149, 3) := by decide +kernel
theorem dX9_wants_26 : decode cX9_wants 26 = .ok (.aload_n 0, 1) := by decide +kernel
theorem dX9_wants_27 : decode cX9_wants 27 = .ok (.dup, 1) := by decide +kernel
theorem dX9_wants_28 : decode cX9_wants 28 = .ok (.getfield 146, 3) := by decide +kernel
theorem dX9_wants_31 : decode cX9_wants 31 = .ok (.iconst 1, 1) := by decide +kernel
theorem dX9_wants_32 : decode cX9_wants 32 = .ok (.iadd, 1) := by decide +kernel
theorem dX9_wants_33 : decode cX9_wants 33 = .ok (.putfield 146, 3) := by decide +kernel
theorem dX9_wants_36 : decode cX9_wants 36 = .ok (.return_, 1) := by decide +kernel
theorem dX9_figure_0 : decode cX9_figure 0 = .ok (.aload_n 0, 1) := by decide +kernel
theorem dX9_figure_1 : decode cX9_figure 1 = .ok (.invokevirtual 152, 3) := by decide +kernel
theorem dX9_figure_4 : decode cX9_figure 4 = .ok (.bipush 48, 2) := by decide +kernel
theorem dX9_figure_6 : decode cX9_figure 6 = .ok (.isub, 1) := by decide +kernel
theorem dX9_figure_7 : decode cX9_figure 7 = .ok (.istore_n 3, 1) := by decide +kernel
theorem dX9_figure_8 : decode cX9_figure 8 = .ok (.aload_n 0, 1) := by decide +kernel
theorem dX9_figure_9 : decode cX9_figure 9 = .ok (.iload_n 3, 1) := by decide +kernel
theorem dX9_figure_10 : decode cX9_figure 10 = .ok (.iload_n 1, 1) := by decide +kernel
theorem dX9_figure_11 : decode cX9_figure 11 = .ok (.iload_n 2, 1) := by decide +kernel
theorem dX9_figure_12 : decode cX9_figure 12 = .ok (.invokestatic 26, 3) := by decide +kernel
theorem dX9_figure_15 : decode cX9_figure 15 = .ok (.invokevirtual 155, 3) := by decide +kernel
theorem dX9_figure_18 : decode cX9_figure 18 = .ok (.iload_n 3, 1) := by decide +kernel
theorem dX9_figure_19 : decode cX9_figure 19 = .ok (.ireturn, 1) := by decide +kernel
theorem dX9_isSignNext_0 : decode cX9_isSignNext 0 = .ok (.aload_n 0, 1) := by decide +kernel
theorem dX9_isSignNext_1 : decode cX9_isSignNext 1 = .ok (.invokevirtual 152, 3) := by decide +kernel
theorem dX9_isSignNext_4 : decode cX9_isSignNext 4 = .ok (.bipush 48, 2) := by decide +kernel
theorem dX9_isSignNext_6 : decode cX9_isSignNext 6 = .ok (.bipush 57, 2) := by decide +kernel
theorem dX9_isSignNext_8 : decode cX9_isSignNext 8 = .ok (.invokestatic 26, 3) := by decide +kernel
theorem dX9_isSignNext_11 : decode cX9_isSignNext 11 = .ok (.ifCond .ne 16, 3) := by decide +kernel
theorem dX9_isSignNext_14 : decode cX9_isSignNext 14 = .ok (.aload_n 0, 1) := by decide +kernel
theorem dX9_isSignNext_15 : decode cX9_isSignNext 15 = .ok (.invokevirtual 152, 3) := by decide +kernel
theorem dX9_isSignNext_18 : decode cX9_isSignNext 18 = .ok (.bipush 114, 2) := by decide +kernel
theorem dX9_isSignNext_20 : decode cX9_isSignNext 20 = .ok (.if_icmp .ne 11, 3) := by decide +kernel
theorem dX9_isSignNext_23 : decode cX9_isSignNext 23 = .ok (.iload_n 1, 1) := by decide +kernel
theorem dX9_isSignNext_24 : decode cX9_isSignNext 24 = .ok (.ifCond .le 7, 3) := by decide +kernel
theorem dX9_isSignNext_27 : decode cX9_isSignNext 27 = .ok (.iconst 1, 1) := by decide +kernel
theorem dX9_isSignNext_28 : decode cX9_isSignNext 28 = .ok (.goto 4, 3) := by decide +kernel
theorem dX9_isSignNext_31 : decode cX9_isSignNext 31 = .ok (.iconst 0, 1) := by decide +kernel
theorem dX9_isSignNext_32 : decode cX9_isSignNext 32 = .ok (.ireturn, 1) := by decide +kernel
theorem dX9_readSign_0 : decode cX9_readSign 0 = .ok (.aload_n 0, 1) := by decide +kernel
theorem dX9_readSign_1 : decode cX9_readSign 1 = .ok (.getfield 23, 3) := by decide +kernel
theorem dX9_readSign_4 : decode cX9_readSign 4 = .ok (.iconst 5, 1) := by decide +kernel
theorem dX9_readSign_5 : decode cX9_readSign 5 = .ok (.iload_n 1, 1) := by decide +kernel
theorem dX9_readSign_6 : decode cX9_readSign 6 = .ok (.imul, 1) := by decide +kernel
theorem dX9_readSign_7 : decode cX9_readSign 7 = .ok (.iaload, 1) := by decide +kernel
theorem dX9_readSign_8 : decode cX9_readSign 8 = .ok (.istore_n 2, 1) := by decide +kernel
theorem dX9_readSign_9 : decode cX9_readSign 9 = .ok (.aload_n 0, 1) := by decide +kernel
theorem dX9_readSign_10 : decode cX9_readSign 10 = .ok (.aload_n 0, 1) := by decide +kernel
theorem dX9_readSign_11 : decode cX9_readSign 11 = .ok (.iload_n 2, 1) := by decide +kernel
theorem dX9_readSign_12 : decode cX9_readSign 12 = .ok (.invokevirtual 159, 3) := by decide +kernel
theorem dX9_readSign_15 : decode cX9_readSign 15 = .ok (.invokevirtual 155, 3) := by decide +kernel
theorem dX9_readSign_18 : decode cX9_readSign 18 = .ok (.aload_n 0, 1) := by decide +kernel
theorem dX9_readSign_19 : decode cX9_readSign 19 = .ok (.getfield 149, 3) := by decide +kernel
theorem dX9_readSign_22 : decode cX9_readSign 22 = .ok (.bipush (-6), 2) := by decide +kernel
theorem dX9_readSign_24 : decode cX9_readSign 24 = .ok (.if_icmp .ne 20, 3) := by decide +kernel
theorem dX9_readSign_27 : decode cX9_readSign 27 = .ok (.aload_n 0, 1) := by decide +kernel
theorem dX9_readSign_28 : decode cX9_readSign 28 = .ok (.getfield 19, 3) := by decide +kernel
theorem dX9_readSign_31 : decode cX9_readSign 31 = .ok (.aload_n 0, 1) := by decide +kernel
theorem dX9_readSign_32 : decode cX9_readSign 32 = .ok (.getfield 146, 3) := by decide +kernel
theorem dX9_readSign_35 : decode cX9_readSign 35 = .ok (.iconst 1, 1) := by decide +kernel
theorem dX9_readSign_36 : decode cX9_readSign 36 = .ok (.isub, 1) := by decide +kernel
theorem dX9_readSign_37 : decode cX9_readSign 37 = .ok (.caload, 1) := by decide +kernel
theorem dX9_readSign_38 : decode cX9_readSign 38 = .ok (.bipush 48, 2) := by decide +kernel
theorem dX9_readSign_40 : decode cX9_readSign 40 = .ok (.isub, 1) := by decide +kernel
theorem dX9_readSign_41 : decode cX9_readSign 41 = .ok (.goto 4, 3) := by decide +kernel
theorem dX9_readSign_44 : decode cX9_readSign 44 = .ok (.iconst 0, 1) := by decide +kernel
theorem dX9_readSign_45 : decode cX9_readSign 45 = .ok (.istore_n 3, 1) := by decide +kernel
theorem dX9_readSign_46 : decode cX9_readSign 46 = .ok (.aload_n 0, 1) := by decide +kernel
theorem dX9_readSign_47 : decode cX9_readSign 47 = .ok (.getfield 149, 3) := by decide +kernel
theorem dX9_readSign_50 : decode cX9_readSign 50 = .ok (.bipush (-6), 2) := by decide +kernel
theorem dX9_readSign_52 : decode cX9_readSign 52 = .ok (.if_icmp .ne 38, 3) := by decide +kernel
theorem dX9_readSign_55 : decode cX9_readSign 55 = .ok (.aload_n 0, 1) := by decide +kernel
theorem dX9_readSign_56 : decode cX9_readSign 56 = .ok (.getfield 19, 3) := by decide +kernel
theorem dX9_readSign_59 : decode cX9_readSign 59 = .ok (.aload_n 0, 1) := by decide +kernel
theorem dX9_readSign_60 : decode cX9_readSign 60 = .ok (.getfield 146, 3) := by decide +kernel
theorem dX9_readSign_63 : decode cX9_readSign 63 = .ok (.iconst 1, 1) := by decide +kernel
theorem dX9_readSign_64 : decode cX9_readSign 64 = .ok (.isub, 1) := by decide +kernel
theorem dX9_readSign_65 : decode cX9_readSign 65 = .ok (.caload, 1) := by decide +kernel
theorem dX9_readSign_66 : decode cX9_readSign 66 = .ok (.bipush 114, 2) := by decide +kernel
theorem dX9_readSign_68 : decode cX9_readSign 68 = .ok (.if_icmp .ne 22, 3) := by decide +kernel
theorem dX9_readSign_71 : decode cX9_readSign 71 = .ok (.bipush 10, 2) := by decide +kernel
theorem dX9_readSign_73 : decode cX9_readSign 73 = .ok (.aload_n 0, 1) := by decide +kernel
theorem dX9_readSign_74 : decode cX9_readSign 74 = .ok (.iconst 1, 1) := by decide +kernel
theorem dX9_readSign_75 : decode cX9_readSign 75 = .ok (.iload_n 2, 1) := by decide +kernel
theorem dX9_readSign_76 : decode cX9_readSign 76 = .ok (.iconst 3, 1) := by decide +kernel
theorem dX9_readSign_77 : decode cX9_readSign 77 = .ok (.if_icmp .ge 7, 3) := by decide +kernel
theorem dX9_readSign_80 : decode cX9_readSign 80 = .ok (.iload_n 2, 1) := by decide +kernel
theorem dX9_readSign_81 : decode cX9_readSign 81 = .ok (.goto 4, 3) := by decide +kernel
theorem dX9_readSign_84 : decode cX9_readSign 84 = .ok (.iconst 3, 1) := by decide +kernel
theorem dX9_readSign_85 : decode cX9_readSign 85 = .ok (.invokevirtual 162, 3) := by decide +kernel
theorem dX9_readSign_88 : decode cX9_readSign 88 = .ok (.iadd, 1) := by decide +kernel
theorem dX9_readSign_89 : decode cX9_readSign 89 = .ok (.istore_n 3, 1) := by decide +kernel
theorem dX9_readSign_90 : decode cX9_readSign 90 = .ok (.aload_n 0, 1) := by decide +kernel
theorem dX9_readSign_91 : decode cX9_readSign 91 = .ok (.getfield 149, 3) := by decide +kernel
theorem dX9_readSign_94 : decode cX9_readSign 94 = .ok (.bipush (-6), 2) := by decide +kernel
theorem dX9_readSign_96 : decode cX9_readSign 96 = .ok (.if_icmp .ne 33, 3) := by decide +kernel
theorem dX9_readSign_99 : decode cX9_readSign 99 = .ok (.aload_n 0, 1) := by decide +kernel
theorem dX9_readSign_100 : decode cX9_readSign 100 = .ok (.getfield 23, 3) := by decide +kernel
theorem dX9_readSign_103 : decode cX9_readSign 103 = .ok (.iconst 5, 1) := by decide +kernel
theorem dX9_readSign_104 : decode cX9_readSign 104 = .ok (.iload_n 1, 1) := by decide +kernel
theorem dX9_readSign_105 : decode cX9_readSign 105 = .ok (.imul, 1) := by decide +kernel
theorem dX9_readSign_106 : decode cX9_readSign 106 = .ok (.dup2, 1) := by decide +kernel
theorem dX9_readSign_107 : decode cX9_readSign 107 = .ok (.iaload, 1) := by decide +kernel
theorem dX9_readSign_108 : decode cX9_readSign 108 = .ok (.iconst 1, 1) := by decide +kernel
theorem dX9_readSign_109 : decode cX9_readSign 109 = .ok (.iadd, 1) := by decide +kernel
theorem dX9_readSign_110 : decode cX9_readSign 110 = .ok (.iastore, 1) := by decide +kernel
theorem dX9_readSign_111 : decode cX9_readSign 111 = .ok (.aload_n 0, 1) := by decide +kernel
theorem dX9_readSign_112 : decode cX9_readSign 112 = .ok (.getfield 23, 3) := by decide +kernel
theorem dX9_readSign_115 : decode cX9_readSign 115 = .ok (.iconst 5, 1) := by decide +kernel
theorem dX9_readSign_116 : decode cX9_readSign 116 = .ok (.iload_n 1, 1) := by decide +kernel
theorem dX9_readSign_117 : decode cX9_readSign 117 = .ok (.imul, 1) := by decide +kernel
theorem dX9_readSign_118 : decode cX9_readSign 118 = .ok (.aload_n 0, 1) := by decide +kernel
theorem dX9_readSign_119 : decode cX9_readSign 119 = .ok (.getfield 23, 3) := by decide +kernel
theorem dX9_readSign_122 : decode cX9_readSign 122 = .ok (.iconst 5, 1) := by decide +kernel
theorem dX9_readSign_123 : decode cX9_readSign 123 = .ok (.iload_n 1, 1) := by decide +kernel
theorem dX9_readSign_124 : decode cX9_readSign 124 = .ok (.imul, 1) := by decide +kernel
theorem dX9_readSign_125 : decode cX9_readSign 125 = .ok (.iaload, 1) := by decide +kernel
theorem dX9_readSign_126 : decode cX9_readSign 126 = .ok (.iadd, 1) := by decide +kernel
theorem dX9_readSign_127 : decode cX9_readSign 127 = .ok (.iload_n 3, 1) := by decide +kernel
theorem dX9_readSign_128 : decode cX9_readSign 128 = .ok (.iastore, 1) := by decide +kernel
theorem dX9_readSign_129 : decode cX9_readSign 129 = .ok (.return_, 1) := by decide +kernel
theorem dX9_readHoist_0 : decode cX9_readHoist 0 = .ok (.aload_n 0, 1) := by decide +kernel
theorem dX9_readHoist_1 : decode cX9_readHoist 1 = .ok (.aload_n 0, 1) := by decide +kernel
theorem dX9_readHoist_2 : decode cX9_readHoist 2 = .ok (.getfield 165, 3) := by decide +kernel
theorem dX9_readHoist_5 : decode cX9_readHoist 5 = .ok (.iconst 1, 1) := by decide +kernel
theorem dX9_readHoist_6 : decode cX9_readHoist 6 = .ok (.iadd, 1) := by decide +kernel
theorem dX9_readHoist_7 : decode cX9_readHoist 7 = .ok (.iconst 4, 1) := by decide +kernel
theorem dX9_readHoist_8 : decode cX9_readHoist 8 = .ok (.invokevirtual 162, 3) := by decide +kernel
theorem dX9_readHoist_11 : decode cX9_readHoist 11 = .ok (.istore_n 1, 1) := by decide +kernel
theorem dX9_readHoist_12 : decode cX9_readHoist 12 = .ok (.aload_n 0, 1) := by decide +kernel
theorem dX9_readHoist_13 : decode cX9_readHoist 13 = .ok (.aload_n 0, 1) := by decide +kernel
theorem dX9_readHoist_14 : decode cX9_readHoist 14 = .ok (.invokevirtual 152, 3) := by decide +kernel
theorem dX9_readHoist_17 : decode cX9_readHoist 17 = .ok (.bipush 58, 2) := by decide +kernel
theorem dX9_readHoist_19 : decode cX9_readHoist 19 = .ok (.if_icmp .ne 7, 3) := by decide +kernel
theorem dX9_readHoist_22 : decode cX9_readHoist 22 = .ok (.iconst 1, 1) := by decide +kernel
theorem dX9_readHoist_23 : decode cX9_readHoist 23 = .ok (.goto 4, 3) := by decide +kernel
theorem dX9_readHoist_26 : decode cX9_readHoist 26 = .ok (.iconst 0, 1) := by decide +kernel
theorem dX9_readHoist_27 : decode cX9_readHoist 27 = .ok (.invokevirtual 155, 3) := by decide +kernel
theorem dX9_readHoist_30 : decode cX9_readHoist 30 = .ok (.aload_n 0, 1) := by decide +kernel
theorem dX9_readHoist_31 : decode cX9_readHoist 31 = .ok (.getfield 149, 3) := by decide +kernel
theorem dX9_readHoist_34 : decode cX9_readHoist 34 = .ok (.bipush (-6), 2) := by decide +kernel
theorem dX9_readHoist_36 : decode cX9_readHoist 36 = .ok (.if_icmp .ne 13, 3) := by decide +kernel
theorem dX9_readHoist_39 : decode cX9_readHoist 39 = .ok (.aload_n 0, 1) := by decide +kernel
theorem dX9_readHoist_40 : decode cX9_readHoist 40 = .ok (.iload_n 1, 1) := by decide +kernel
theorem dX9_readHoist_41 : decode cX9_readHoist 41 = .ok (.putfield 165, 3) := by decide +kernel
theorem dX9_readHoist_44 : decode cX9_readHoist 44 = .ok (.aload_n 0, 1) := by decide +kernel
theorem dX9_readHoist_45 : decode cX9_readHoist 45 = .ok (.iload_n 1, 1) := by decide +kernel
theorem dX9_readHoist_46 : decode cX9_readHoist 46 = .ok (.invokevirtual 168, 3) := by decide +kernel
theorem dX9_readHoist_49 : decode cX9_readHoist 49 = .ok (.aload_n 0, 1) := by decide +kernel
theorem dX9_readHoist_50 : decode cX9_readHoist 50 = .ok (.getfield 149, 3) := by decide +kernel
theorem dX9_readHoist_53 : decode cX9_readHoist 53 = .ok (.bipush (-6), 2) := by decide +kernel
theorem dX9_readHoist_55 : decode cX9_readHoist 55 = .ok (.if_icmp .ne 38, 3) := by decide +kernel
theorem dX9_readHoist_58 : decode cX9_readHoist 58 = .ok (.aload_n 0, 1) := by decide +kernel
theorem dX9_readHoist_59 : decode cX9_readHoist 59 = .ok (.getfield 23, 3) := by decide +kernel
theorem dX9_readHoist_62 : decode cX9_readHoist 62 = .ok (.iconst 5, 1) := by decide +kernel
theorem dX9_readHoist_63 : decode cX9_readHoist 63 = .ok (.iload_n 1, 1) := by decide +kernel
theorem dX9_readHoist_64 : decode cX9_readHoist 64 = .ok (.imul, 1) := by decide +kernel
theorem dX9_readHoist_65 : decode cX9_readHoist 65 = .ok (.iaload, 1) := by decide +kernel
theorem dX9_readHoist_66 : decode cX9_readHoist 66 = .ok (.iconst 4, 1) := by decide +kernel
theorem dX9_readHoist_67 : decode cX9_readHoist 67 = .ok (.if_icmp .ge 26, 3) := by decide +kernel
theorem dX9_readHoist_70 : decode cX9_readHoist 70 = .ok (.aload_n 0, 1) := by decide +kernel
theorem dX9_readHoist_71 : decode cX9_readHoist 71 = .ok (.aload_n 0, 1) := by decide +kernel
theorem dX9_readHoist_72 : decode cX9_readHoist 72 = .ok (.getfield 23, 3) := by decide +kernel
theorem dX9_readHoist_75 : decode cX9_readHoist 75 = .ok (.iconst 5, 1) := by decide +kernel
theorem dX9_readHoist_76 : decode cX9_readHoist 76 = .ok (.iload_n 1, 1) := by decide +kernel
theorem dX9_readHoist_77 : decode cX9_readHoist 77 = .ok (.imul, 1) := by decide +kernel
theorem dX9_readHoist_78 : decode cX9_readHoist 78 = .ok (.iaload, 1) := by decide +kernel
theorem dX9_readHoist_79 : decode cX9_readHoist 79 = .ok (.invokevirtual 159, 3) := by decide +kernel
theorem dX9_readHoist_82 : decode cX9_readHoist 82 = .ok (.ifCond .eq 11, 3) := by decide +kernel
theorem dX9_readHoist_85 : decode cX9_readHoist 85 = .ok (.aload_n 0, 1) := by decide +kernel
theorem dX9_readHoist_86 : decode cX9_readHoist 86 = .ok (.iload_n 1, 1) := by decide +kernel
theorem dX9_readHoist_87 : decode cX9_readHoist 87 = .ok (.invokevirtual 168, 3) := by decide +kernel
theorem dX9_readHoist_90 : decode cX9_readHoist 90 = .ok (.goto (-41), 3) := by decide +kernel
theorem dX9_readHoist_93 : decode cX9_readHoist 93 = .ok (.return_, 1) := by decide +kernel
theorem dX9_errorPosition_0 : decode cX9_errorPosition 0 = .ok (.iconst 0, 1) := by decide +kernel
theorem dX9_errorPosition_1 : decode cX9_errorPosition 1 = .ok (.istore_n 1, 1) := by decide +kernel
theorem dX9_errorPosition_2 : decode cX9_errorPosition 2 = .ok (.iload_n 1, 1) := by decide +kernel
theorem dX9_errorPosition_3 : decode cX9_errorPosition 3 = .ok (.bipush 25, 2) := by decide +kernel
theorem dX9_errorPosition_5 : decode cX9_errorPosition 5 = .ok (.if_icmp .ge 16, 3) := by decide +kernel
theorem dX9_errorPosition_8 : decode cX9_errorPosition 8 = .ok (.aload_n 0, 1) := by decide +kernel
theorem dX9_errorPosition_9 : decode cX9_errorPosition 9 = .ok (.getfield 23, 3) := by decide +kernel
theorem dX9_errorPosition_12 : decode cX9_errorPosition 12 = .ok (.iload_n 1, 1) := by decide +kernel
theorem dX9_errorPosition_13 : decode cX9_errorPosition 13 = .ok (.iconst 0, 1) := by decide +kernel
theorem dX9_errorPosition_14 : decode cX9_errorPosition 14 = .ok (.iastore, 1) := by decide +kernel
theorem dX9_errorPosition_15 : decode cX9_errorPosition 15 = .ok (.iinc 1 1, 3) := by decide +kernel
theorem dX9_errorPosition_18 : decode cX9_errorPosition 18 = .ok (.goto (-16), 3) := by decide +kernel
theorem dX9_errorPosition_21 : decode cX9_errorPosition 21 = .ok (.aload_n 0, 1) := by decide +kernel
theorem dX9_errorPosition_22 : decode cX9_errorPosition 22 = .ok (.iconst (-1), 1) := by decide +kernel
theorem dX9_errorPosition_23 : decode cX9_errorPosition 23 = .ok (.putfield 165, 3) := by decide +kernel
theorem dX9_errorPosition_26 : decode cX9_errorPosition 26 = .ok (.aload_n 0, 1) := by decide +kernel
theorem dX9_errorPosition_27 : decode cX9_errorPosition 27 = .ok (.iconst 0, 1) := by decide +kernel
theorem dX9_errorPosition_28 : decode cX9_errorPosition 28 = .ok (.putfield 146, 3) := by decide +kernel
theorem dX9_errorPosition_31 : decode cX9_errorPosition 31 = .ok (.aload_n 0, 1) := by decide +kernel
theorem dX9_errorPosition_32 : decode cX9_errorPosition 32 = .ok (.bipush (-6), 2) := by decide +kernel
theorem dX9_errorPosition_34 : decode cX9_errorPosition 34 = .ok (.putfield 149, 3) := by decide +kernel
theorem dX9_errorPosition_37 : decode cX9_errorPosition 37 = .ok (.iconst 1, 1) := by decide +kernel
theorem dX9_errorPosition_38 : decode cX9_errorPosition 38 = .ok (.istore_n 1, 1) := by decide +kernel
theorem dX9_errorPosition_39 : decode cX9_errorPosition 39 = .ok (.iload_n 1, 1) := by decide +kernel
theorem dX9_errorPosition_40 : decode cX9_errorPosition 40 = .ok (.ifCond .eq 81, 3) := by decide +kernel
theorem dX9_errorPosition_43 : decode cX9_errorPosition 43 = .ok (.aload_n 0, 1) := by decide +kernel
theorem dX9_errorPosition_44 : decode cX9_errorPosition 44 = .ok (.invokevirtual 172, 3) := by decide +kernel
theorem dX9_errorPosition_47 : decode cX9_errorPosition 47 = .ok (.aload_n 0, 1) := by decide +kernel
theorem dX9_errorPosition_48 : decode cX9_errorPosition 48 = .ok (.getfield 149, 3) := by decide +kernel
theorem dX9_errorPosition_51 : decode cX9_errorPosition 51 = .ok (.bipush (-6), 2) := by decide +kernel
theorem dX9_errorPosition_53 : decode cX9_errorPosition 53 = .ok (.if_icmp .ne 18, 3) := by decide +kernel
theorem dX9_errorPosition_56 : decode cX9_errorPosition 56 = .ok (.aload_n 0, 1) := by decide +kernel
theorem dX9_errorPosition_57 : decode cX9_errorPosition 57 = .ok (.getfield 146, 3) := by decide +kernel
theorem dX9_errorPosition_60 : decode cX9_errorPosition 60 = .ok (.aload_n 0, 1) := by decide +kernel
theorem dX9_errorPosition_61 : decode cX9_errorPosition 61 = .ok (.getfield 143, 3) := by decide +kernel
theorem dX9_errorPosition_64 : decode cX9_errorPosition 64 = .ok (.if_icmp .ge 7, 3) := by decide +kernel
theorem dX9_errorPosition_67 : decode cX9_errorPosition 67 = .ok (.iconst 1, 1) := by decide +kernel
theorem dX9_errorPosition_68 : decode cX9_errorPosition 68 = .ok (.goto 4, 3) := by decide +kernel
theorem dX9_errorPosition_71 : decode cX9_errorPosition 71 = .ok (.iconst 0, 1) := by decide +kernel
theorem dX9_errorPosition_72 : decode cX9_errorPosition 72 = .ok (.istore_n 1, 1) := by decide +kernel
theorem dX9_errorPosition_73 : decode cX9_errorPosition 73 = .ok (.iload_n 1, 1) := by decide +kernel
theorem dX9_errorPosition_74 : decode cX9_errorPosition 74 = .ok (.ifCond .eq (-35), 3) := by decide +kernel
theorem dX9_errorPosition_77 : decode cX9_errorPosition 77 = .ok (.aload_n 0, 1) := by decide +kernel
theorem dX9_errorPosition_78 : decode cX9_errorPosition 78 = .ok (.aload_n 0, 1) := by decide +kernel
theorem dX9_errorPosition_79 : decode cX9_errorPosition 79 = .ok (.invokevirtual 152, 3) := by decide +kernel
theorem dX9_errorPosition_82 : decode cX9_errorPosition 82 = .ok (.bipush 44, 2) := by decide +kernel
theorem dX9_errorPosition_84 : decode cX9_errorPosition 84 = .ok (.if_icmp .ne 15, 3) := by decide +kernel
theorem dX9_errorPosition_87 : decode cX9_errorPosition 87 = .ok (.aload_n 0, 1) := by decide +kernel
theorem dX9_errorPosition_88 : decode cX9_errorPosition 88 = .ok (.getfield 165, 3) := by decide +kernel
theorem dX9_errorPosition_91 : decode cX9_errorPosition 91 = .ok (.iconst 4, 1) := by decide +kernel
theorem dX9_errorPosition_92 : decode cX9_errorPosition 92 = .ok (.if_icmp .ge 7, 3) := by decide +kernel
theorem dX9_errorPosition_95 : decode cX9_errorPosition 95 = .ok (.iconst 1, 1) := by decide +kernel
theorem dX9_errorPosition_96 : decode cX9_errorPosition 96 = .ok (.goto 4, 3) := by decide +kernel
theorem dX9_errorPosition_99 : decode cX9_errorPosition 99 = .ok (.iconst 0, 1) := by decide +kernel
theorem dX9_errorPosition_100 : decode cX9_errorPosition 100 = .ok (.invokevirtual 155, 3) := by decide +kernel
theorem dX9_errorPosition_103 : decode cX9_errorPosition 103 = .ok (.aload_n 0, 1) := by decide +kernel
theorem dX9_errorPosition_104 : decode cX9_errorPosition 104 = .ok (.getfield 149, 3) := by decide +kernel
theorem dX9_errorPosition_107 : decode cX9_errorPosition 107 = .ok (.bipush (-6), 2) := by decide +kernel
theorem dX9_errorPosition_109 : decode cX9_errorPosition 109 = .ok (.if_icmp .ne 7, 3) := by decide +kernel
theorem dX9_errorPosition_112 : decode cX9_errorPosition 112 = .ok (.iconst 1, 1) := by decide +kernel
theorem dX9_errorPosition_113 : decode cX9_errorPosition 113 = .ok (.goto 4, 3) := by decide +kernel
theorem dX9_errorPosition_116 : decode cX9_errorPosition 116 = .ok (.iconst 0, 1) := by decide +kernel
theorem dX9_errorPosition_117 : decode cX9_errorPosition 117 = .ok (.istore_n 1, 1) := by decide +kernel
theorem dX9_errorPosition_118 : decode cX9_errorPosition 118 = .ok (.goto (-79), 3) := by decide +kernel
theorem dX9_errorPosition_121 : decode cX9_errorPosition 121 = .ok (.aload_n 0, 1) := by decide +kernel
theorem dX9_errorPosition_122 : decode cX9_errorPosition 122 = .ok (.getfield 149, 3) := by decide +kernel
theorem dX9_errorPosition_125 : decode cX9_errorPosition 125 = .ok (.ireturn, 1) := by decide +kernel
theorem dX9_neededOf_0 : decode cX9_neededOf 0 = .ok (.iconst 0, 1) := by decide +kernel
theorem dX9_neededOf_1 : decode cX9_neededOf 1 = .ok (.istore_n 2, 1) := by decide +kernel
theorem dX9_neededOf_2 : decode cX9_neededOf 2 = .ok (.iconst 0, 1) := by decide +kernel
theorem dX9_neededOf_3 : decode cX9_neededOf 3 = .ok (.istore_n 3, 1) := by decide +kernel
theorem dX9_neededOf_4 : decode cX9_neededOf 4 = .ok (.iload_n 3, 1) := by decide +kernel
theorem dX9_neededOf_5 : decode cX9_neededOf 5 = .ok (.iconst 5, 1) := by decide +kernel
theorem dX9_neededOf_6 : decode cX9_neededOf 6 = .ok (.if_icmp .ge 54, 3) := by decide +kernel
theorem dX9_neededOf_9 : decode cX9_neededOf 9 = .ok (.iconst 1, 1) := by decide +kernel
theorem dX9_neededOf_10 : decode cX9_neededOf 10 = .ok (.istore 4, 2) := by decide +kernel
theorem dX9_neededOf_12 : decode cX9_neededOf 12 = .ok (.iload 4, 2) := by decide +kernel
theorem dX9_neededOf_14 : decode cX9_neededOf 14 = .ok (.aload_n 0, 1) := by decide +kernel
theorem dX9_neededOf_15 : decode cX9_neededOf 15 = .ok (.getfield 23, 3) := by decide +kernel
theorem dX9_neededOf_18 : decode cX9_neededOf 18 = .ok (.iconst 5, 1) := by decide +kernel
theorem dX9_neededOf_19 : decode cX9_neededOf 19 = .ok (.iload_n 3, 1) := by decide +kernel
theorem dX9_neededOf_20 : decode cX9_neededOf 20 = .ok (.imul, 1) := by decide +kernel
theorem dX9_neededOf_21 : decode cX9_neededOf 21 = .ok (.iaload, 1) := by decide +kernel
theorem dX9_neededOf_22 : decode cX9_neededOf 22 = .ok (.if_icmp .gt 32, 3) := by decide +kernel
theorem dX9_neededOf_25 : decode cX9_neededOf 25 = .ok (.iload_n 2, 1) := by decide +kernel
theorem dX9_neededOf_26 : decode cX9_neededOf 26 = .ok (.aload_n 0, 1) := by decide +kernel
theorem dX9_neededOf_27 : decode cX9_neededOf 27 = .ok (.getfield 23, 3) := by decide +kernel
theorem dX9_neededOf_30 : decode cX9_neededOf 30 = .ok (.iconst 5, 1) := by decide +kernel
theorem dX9_neededOf_31 : decode cX9_neededOf 31 = .ok (.iload_n 3, 1) := by decide +kernel
theorem dX9_neededOf_32 : decode cX9_neededOf 32 = .ok (.imul, 1) := by decide +kernel
theorem dX9_neededOf_33 : decode cX9_neededOf 33 = .ok (.iload 4, 2) := by decide +kernel
theorem dX9_neededOf_35 : decode cX9_neededOf 35 = .ok (.iadd, 1) := by decide +kernel
theorem dX9_neededOf_36 : decode cX9_neededOf 36 = .ok (.iaload, 1) := by decide +kernel
theorem dX9_neededOf_37 : decode cX9_neededOf 37 = .ok (.iload_n 1, 1) := by decide +kernel
theorem dX9_neededOf_38 : decode cX9_neededOf 38 = .ok (.if_icmp .ne 7, 3) := by decide +kernel
theorem dX9_neededOf_41 : decode cX9_neededOf 41 = .ok (.iconst 1, 1) := by decide +kernel
theorem dX9_neededOf_42 : decode cX9_neededOf 42 = .ok (.goto 4, 3) := by decide +kernel
theorem dX9_neededOf_45 : decode cX9_neededOf 45 = .ok (.iconst 0, 1) := by decide +kernel
theorem dX9_neededOf_46 : decode cX9_neededOf 46 = .ok (.iadd, 1) := by decide +kernel
theorem dX9_neededOf_47 : decode cX9_neededOf 47 = .ok (.istore_n 2, 1) := by decide +kernel
theorem dX9_neededOf_48 : decode cX9_neededOf 48 = .ok (.iinc 4 1, 3) := by decide +kernel
theorem dX9_neededOf_51 : decode cX9_neededOf 51 = .ok (.goto (-39), 3) := by decide +kernel
theorem dX9_neededOf_54 : decode cX9_neededOf 54 = .ok (.iinc 3 1, 3) := by decide +kernel
theorem dX9_neededOf_57 : decode cX9_neededOf 57 = .ok (.goto (-53), 3) := by decide +kernel
theorem dX9_neededOf_60 : decode cX9_neededOf 60 = .ok (.iload_n 2, 1) := by decide +kernel
theorem dX9_neededOf_61 : decode cX9_neededOf 61 = .ok (.ireturn, 1) := by decide +kernel
theorem dX9_hoist_0 : decode cX9_hoist 0 = .ok (.aload_n 0, 1) := by decide +kernel
theorem dX9_hoist_1 : decode cX9_hoist 1 = .ok (.invokevirtual 175, 3) := by decide +kernel
theorem dX9_hoist_4 : decode cX9_hoist 4 = .ok (.bipush (-6), 2) := by decide +kernel
theorem dX9_hoist_6 : decode cX9_hoist 6 = .ok (.if_icmp .eq 6, 3) := by decide +kernel
theorem dX9_hoist_9 : decode cX9_hoist 9 = .ok (.bipush (-5), 2) := by decide +kernel
theorem dX9_hoist_11 : decode cX9_hoist 11 = .ok (.ireturn, 1) := by decide +kernel
theorem dX9_hoist_12 : decode cX9_hoist 12 = .ok (.iconst 0, 1) := by decide +kernel
theorem dX9_hoist_13 : decode cX9_hoist 13 = .ok (.istore_n 1, 1) := by decide +kernel
theorem dX9_hoist_14 : decode cX9_hoist 14 = .ok (.iload_n 1, 1) := by decide +kernel
theorem dX9_hoist_15 : decode cX9_hoist 15 = .ok (.bipush 13, 2) := by decide +kernel
theorem dX9_hoist_17 : decode cX9_hoist 17 = .ok (.if_icmp .gt 26, 3) := by decide +kernel
theorem dX9_hoist_20 : decode cX9_hoist 20 = .ok (.aload_n 0, 1) := by decide +kernel
theorem dX9_hoist_21 : decode cX9_hoist 21 = .ok (.iload_n 1, 1) := by decide +kernel
theorem dX9_hoist_22 : decode cX9_hoist 22 = .ok (.invokevirtual 178, 3) := by decide +kernel
theorem dX9_hoist_25 : decode cX9_hoist 25 = .ok (.aload_n 0, 1) := by decide +kernel
theorem dX9_hoist_26 : decode cX9_hoist 26 = .ok (.getfield 7, 3) := by decide +kernel
theorem dX9_hoist_29 : decode cX9_hoist 29 = .ok (.iconst 0, 1) := by decide +kernel
theorem dX9_hoist_30 : decode cX9_hoist 30 = .ok (.iaload, 1) := by decide +kernel
theorem dX9_hoist_31 : decode cX9_hoist 31 = .ok (.if_icmp .le 6, 3) := by decide +kernel
theorem dX9_hoist_34 : decode cX9_hoist 34 = .ok (.bipush (-4), 2) := by decide +kernel
theorem dX9_hoist_36 : decode cX9_hoist 36 = .ok (.ireturn, 1) := by decide +kernel
theorem dX9_hoist_37 : decode cX9_hoist 37 = .ok (.iinc 1 1, 3) := by decide +kernel
theorem dX9_hoist_40 : decode cX9_hoist 40 = .ok (.goto (-26), 3) := by decide +kernel
theorem dX9_hoist_43 : decode cX9_hoist 43 = .ok (.aload_n 0, 1) := by decide +kernel
theorem dX9_hoist_44 : decode cX9_hoist 44 = .ok (.invokevirtual 57, 3) := by decide +kernel
theorem dX9_hoist_47 : decode cX9_hoist 47 = .ok (.aload_n 0, 1) := by decide +kernel
theorem dX9_hoist_48 : decode cX9_hoist 48 = .ok (.invokevirtual 97, 3) := by decide +kernel
theorem dX9_hoist_51 : decode cX9_hoist 51 = .ok (.iconst 0, 1) := by decide +kernel
theorem dX9_hoist_52 : decode cX9_hoist 52 = .ok (.istore_n 1, 1) := by decide +kernel
theorem dX9_hoist_53 : decode cX9_hoist 53 = .ok (.iload_n 1, 1) := by decide +kernel
theorem dX9_hoist_54 : decode cX9_hoist 54 = .ok (.iconst 5, 1) := by decide +kernel
theorem dX9_hoist_55 : decode cX9_hoist 55 = .ok (.if_icmp .ge 44, 3) := by decide +kernel
theorem dX9_hoist_58 : decode cX9_hoist 58 = .ok (.iconst 1, 1) := by decide +kernel
theorem dX9_hoist_59 : decode cX9_hoist 59 = .ok (.istore_n 2, 1) := by decide +kernel
theorem dX9_hoist_60 : decode cX9_hoist 60 = .ok (.iload_n 2, 1) := by decide +kernel
theorem dX9_hoist_61 : decode cX9_hoist 61 = .ok (.aload_n 0, 1) := by decide +kernel
theorem dX9_hoist_62 : decode cX9_hoist 62 = .ok (.getfield 23, 3) := by decide +kernel
theorem dX9_hoist_65 : decode cX9_hoist 65 = .ok (.iconst 5, 1) := by decide +kernel
theorem dX9_hoist_66 : decode cX9_hoist 66 = .ok (.iload_n 1, 1) := by decide +kernel
theorem dX9_hoist_67 : decode cX9_hoist 67 = .ok (.imul, 1) := by decide +kernel
theorem dX9_hoist_68 : decode cX9_hoist 68 = .ok (.iaload, 1) := by decide +kernel
theorem dX9_hoist_69 : decode cX9_hoist 69 = .ok (.if_icmp .gt 24, 3) := by decide +kernel
theorem dX9_hoist_72 : decode cX9_hoist 72 = .ok (.aload_n 0, 1) := by decide +kernel
theorem dX9_hoist_73 : decode cX9_hoist 73 = .ok (.iload_n 1, 1) := by decide +kernel
theorem dX9_hoist_74 : decode cX9_hoist 74 = .ok (.aload_n 0, 1) := by decide +kernel
theorem dX9_hoist_75 : decode cX9_hoist 75 = .ok (.getfield 23, 3) := by decide +kernel
theorem dX9_hoist_78 : decode cX9_hoist 78 = .ok (.iconst 5, 1) := by decide +kernel
theorem dX9_hoist_79 : decode cX9_hoist 79 = .ok (.iload_n 1, 1) := by decide +kernel
theorem dX9_hoist_80 : decode cX9_hoist 80 = .ok (.imul, 1) := by decide +kernel
theorem dX9_hoist_81 : decode cX9_hoist 81 = .ok (.iload_n 2, 1) := by decide +kernel
theorem dX9_hoist_82 : decode cX9_hoist 82 = .ok (.iadd, 1) := by decide +kernel
theorem dX9_hoist_83 : decode cX9_hoist 83 = .ok (.iaload, 1) := by decide +kernel
theorem dX9_hoist_84 : decode cX9_hoist 84 = .ok (.invokevirtual 81, 3) := by decide +kernel
theorem dX9_hoist_87 : decode cX9_hoist 87 = .ok (.iinc 2 1, 3) := by decide +kernel
theorem dX9_hoist_90 : decode cX9_hoist 90 = .ok (.goto (-30), 3) := by decide +kernel
theorem dX9_hoist_93 : decode cX9_hoist 93 = .ok (.iinc 1 1, 3) := by decide +kernel
theorem dX9_hoist_96 : decode cX9_hoist 96 = .ok (.goto (-43), 3) := by decide +kernel
theorem dX9_hoist_99 : decode cX9_hoist 99 = .ok (.aload_n 0, 1) := by decide +kernel
theorem dX9_hoist_100 : decode cX9_hoist 100 = .ok (.iconst 0, 1) := by decide +kernel
theorem dX9_hoist_101 : decode cX9_hoist 101 = .ok (.putfield 143, 3) := by decide +kernel
theorem dX9_hoist_104 : decode cX9_hoist 104 = .ok (.aload_n 0, 1) := by decide +kernel
theorem dX9_hoist_105 : decode cX9_hoist 105 = .ok (.invokevirtual 45, 3) := by decide +kernel
theorem dX9_hoist_108 : decode cX9_hoist 108 = .ok (.ireturn, 1) := by decide +kernel
theorem dL_law_0 : decode cL_law 0 = .ok (.new 7, 3) := by decide +kernel
theorem dL_law_3 : decode cL_law 3 = .ok (.dup, 1) := by decide +kernel
theorem dL_law_4 : decode cL_law 4 = .ok (.invokespecial 9, 3) := by decide +kernel
theorem dL_law_7 : decode cL_law 7 = .ok (.astore_n 1, 1) := by decide +kernel
theorem dL_law_8 : decode cL_law 8 = .ok (.new 10, 3) := by decide +kernel
theorem dL_law_11 : decode cL_law 11 = .ok (.dup, 1) := by decide +kernel
theorem dL_law_12 : decode cL_law 12 = .ok (.invokespecial 12, 3) := by decide +kernel
theorem dL_law_15 : decode cL_law 15 = .ok (.astore_n 2, 1) := by decide +kernel
theorem dL_law_16 : decode cL_law 16 = .ok (.iconst 0, 1) := by decide +kernel
theorem dL_law_17 : decode cL_law 17 = .ok (.istore_n 3, 1) := by decide +kernel
theorem dL_law_18 : decode cL_law 18 = .ok (.iload_n 3, 1) := by decide +kernel
theorem dL_law_19 : decode cL_law 19 = .ok (.aload_n 0, 1) := by decide +kernel
theorem dL_law_20 : decode cL_law 20 = .ok (.arraylength, 1) := by decide +kernel
theorem dL_law_21 : decode cL_law 21 = .ok (.iconst 5, 1) := by decide +kernel
theorem dL_law_22 : decode cL_law 22 = .ok (.isub, 1) := by decide +kernel
theorem dL_law_23 : decode cL_law 23 = .ok (.if_icmp .gt 918, 3) := by decide +kernel
theorem dL_law_26 : decode cL_law 26 = .ok (.aload_n 0, 1) := by decide +kernel
theorem dL_law_27 : decode cL_law 27 = .ok (.iload_n 3, 1) := by decide +kernel
theorem dL_law_28 : decode cL_law 28 = .ok (.iaload, 1) := by decide +kernel
theorem dL_law_29 : decode cL_law 29 = .ok (.bipush 31, 2) := by decide +kernel
theorem dL_law_31 : decode cL_law 31 = .ok (.iand, 1) := by decide +kernel
theorem dL_law_32 : decode cL_law 32 = .ok (.tableswitch 903 0 30 #[140, 193, 216, 249, 282, 315, 338, 371, 384, 427, 460, 483, 516, 559, 592, 615, 628, 651, 664, 697, 720, 743, 766, 779, 802, 825, 838, 851, 864, 877, 890], 140) := by decide +kernel
theorem dL_law_172 : decode cL_law 172 = .ok (.aload_n 1, 1) := by decide +kernel
theorem dL_law_173 : decode cL_law 173 = .ok (.aload_n 0, 1) := by decide +kernel
theorem dL_law_174 : decode cL_law 174 = .ok (.iload_n 3, 1) := by decide +kernel
theorem dL_law_175 : decode cL_law 175 = .ok (.iconst 1, 1) := by decide +kernel
theorem dL_law_176 : decode cL_law 176 = .ok (.iadd, 1) := by decide +kernel
theorem dL_law_177 : decode cL_law 177 = .ok (.iaload, 1) := by decide +kernel
theorem dL_law_178 : decode cL_law 178 = .ok (.aload_n 0, 1) := by decide +kernel
theorem dL_law_179 : decode cL_law 179 = .ok (.iload_n 3, 1) := by decide +kernel
theorem dL_law_180 : decode cL_law 180 = .ok (.iconst 2, 1) := by decide +kernel
theorem dL_law_181 : decode cL_law 181 = .ok (.iadd, 1) := by decide +kernel
theorem dL_law_182 : decode cL_law 182 = .ok (.iaload, 1) := by decide +kernel
theorem dL_law_183 : decode cL_law 183 = .ok (.aload_n 0, 1) := by decide +kernel
theorem dL_law_184 : decode cL_law 184 = .ok (.iload_n 3, 1) := by decide +kernel
theorem dL_law_185 : decode cL_law 185 = .ok (.iconst 3, 1) := by decide +kernel
theorem dL_law_186 : decode cL_law 186 = .ok (.iadd, 1) := by decide +kernel
theorem dL_law_187 : decode cL_law 187 = .ok (.iaload, 1) := by decide +kernel
theorem dL_law_188 : decode cL_law 188 = .ok (.aload_n 0, 1) := by decide +kernel
theorem dL_law_189 : decode cL_law 189 = .ok (.iload_n 3, 1) := by decide +kernel
theorem dL_law_190 : decode cL_law 190 = .ok (.iconst 4, 1) := by decide +kernel
theorem dL_law_191 : decode cL_law 191 = .ok (.iadd, 1) := by decide +kernel
theorem dL_law_192 : decode cL_law 192 = .ok (.iaload, 1) := by decide +kernel
theorem dL_law_193 : decode cL_law 193 = .ok (.invokevirtual 13, 3) := by decide +kernel
theorem dL_law_196 : decode cL_law 196 = .ok (.aload_n 2, 1) := by decide +kernel
theorem dL_law_197 : decode cL_law 197 = .ok (.aload_n 0, 1) := by decide +kernel
theorem dL_law_198 : decode cL_law 198 = .ok (.iload_n 3, 1) := by decide +kernel
theorem dL_law_199 : decode cL_law 199 = .ok (.iconst 1, 1) := by decide +kernel
theorem dL_law_200 : decode cL_law 200 = .ok (.iadd, 1) := by decide +kernel
theorem dL_law_201 : decode cL_law 201 = .ok (.iaload, 1) := by decide +kernel
theorem dL_law_202 : decode cL_law 202 = .ok (.aload_n 0, 1) := by decide +kernel
theorem dL_law_203 : decode cL_law 203 = .ok (.iload_n 3, 1) := by decide +kernel
theorem dL_law_204 : decode cL_law 204 = .ok (.iconst 2, 1) := by decide +kernel
theorem dL_law_205 : decode cL_law 205 = .ok (.iadd, 1) := by decide +kernel
theorem dL_law_206 : decode cL_law 206 = .ok (.iaload, 1) := by decide +kernel
theorem dL_law_207 : decode cL_law 207 = .ok (.aload_n 0, 1) := by decide +kernel
theorem dL_law_208 : decode cL_law 208 = .ok (.iload_n 3, 1) := by decide +kernel
theorem dL_law_209 : decode cL_law 209 = .ok (.iconst 3, 1) := by decide +kernel
theorem dL_law_210 : decode cL_law 210 = .ok (.iadd, 1) := by decide +kernel
theorem dL_law_211 : decode cL_law 211 = .ok (.iaload, 1) := by decide +kernel
theorem dL_law_212 : decode cL_law 212 = .ok (.aload_n 0, 1) := by decide +kernel
theorem dL_law_213 : decode cL_law 213 = .ok (.iload_n 3, 1) := by decide +kernel
theorem dL_law_214 : decode cL_law 214 = .ok (.iconst 4, 1) := by decide +kernel
theorem dL_law_215 : decode cL_law 215 = .ok (.iadd, 1) := by decide +kernel
theorem dL_law_216 : decode cL_law 216 = .ok (.iaload, 1) := by decide +kernel
theorem dL_law_217 : decode cL_law 217 = .ok (.invokevirtual 17, 3) := by decide +kernel
theorem dL_law_220 : decode cL_law 220 = .ok (.if_icmp .eq 715, 3) := by decide +kernel
theorem dL_law_223 : decode cL_law 223 = .ok (.iconst 0, 1) := by decide +kernel
theorem dL_law_224 : decode cL_law 224 = .ok (.ireturn, 1) := by decide +kernel
theorem dL_law_225 : decode cL_law 225 = .ok (.aload_n 1, 1) := by decide +kernel
theorem dL_law_226 : decode cL_law 226 = .ok (.aload_n 0, 1) := by decide +kernel
theorem dL_law_227 : decode cL_law 227 = .ok (.iload_n 3, 1) := by decide +kernel
theorem dL_law_228 : decode cL_law 228 = .ok (.iconst 1, 1) := by decide +kernel
theorem dL_law_229 : decode cL_law 229 = .ok (.iadd, 1) := by decide +kernel
theorem dL_law_230 : decode cL_law 230 = .ok (.iaload, 1) := by decide +kernel
theorem dL_law_231 : decode cL_law 231 = .ok (.invokevirtual 18, 3) := by decide +kernel
theorem dL_law_234 : decode cL_law 234 = .ok (.aload_n 2, 1) := by decide +kernel
theorem dL_law_235 : decode cL_law 235 = .ok (.aload_n 0, 1) := by decide +kernel
theorem dL_law_236 : decode cL_law 236 = .ok (.iload_n 3, 1) := by decide +kernel
theorem dL_law_237 : decode cL_law 237 = .ok (.iconst 1, 1) := by decide +kernel
theorem dL_law_238 : decode cL_law 238 = .ok (.iadd, 1) := by decide +kernel
theorem dL_law_239 : decode cL_law 239 = .ok (.iaload, 1) := by decide +kernel
theorem dL_law_240 : decode cL_law 240 = .ok (.invokevirtual 22, 3) := by decide +kernel
theorem dL_law_243 : decode cL_law 243 = .ok (.if_icmp .eq 692, 3) := by decide +kernel
theorem dL_law_246 : decode cL_law 246 = .ok (.iconst 0, 1) := by decide +kernel
theorem dL_law_247 : decode cL_law 247 = .ok (.ireturn, 1) := by decide +kernel
theorem dL_law_248 : decode cL_law 248 = .ok (.aload_n 1, 1) := by decide +kernel
theorem dL_law_249 : decode cL_law 249 = .ok (.aload_n 0, 1) := by decide +kernel
theorem dL_law_250 : decode cL_law 250 = .ok (.iload_n 3, 1) := by decide +kernel
theorem dL_law_251 : decode cL_law 251 = .ok (.iconst 1, 1) := by decide +kernel
theorem dL_law_252 : decode cL_law 252 = .ok (.iadd, 1) := by decide +kernel
theorem dL_law_253 : decode cL_law 253 = .ok (.iaload, 1) := by decide +kernel
theorem dL_law_254 : decode cL_law 254 = .ok (.aload_n 0, 1) := by decide +kernel
theorem dL_law_255 : decode cL_law 255 = .ok (.iload_n 3, 1) := by decide +kernel
theorem dL_law_256 : decode cL_law 256 = .ok (.iconst 2, 1) := by decide +kernel
theorem dL_law_257 : decode cL_law 257 = .ok (.iadd, 1) := by decide +kernel
theorem dL_law_258 : decode cL_law 258 = .ok (.iaload, 1) := by decide +kernel
theorem dL_law_259 : decode cL_law 259 = .ok (.invokevirtual 23, 3) := by decide +kernel
theorem dL_law_262 : decode cL_law 262 = .ok (.aload_n 2, 1) := by decide +kernel
theorem dL_law_263 : decode cL_law 263 = .ok (.aload_n 0, 1) := by decide +kernel
theorem dL_law_264 : decode cL_law 264 = .ok (.iload_n 3, 1) := by decide +kernel
theorem dL_law_265 : decode cL_law 265 = .ok (.iconst 1, 1) := by decide +kernel
theorem dL_law_266 : decode cL_law 266 = .ok (.iadd, 1) := by decide +kernel
theorem dL_law_267 : decode cL_law 267 = .ok (.iaload, 1) := by decide +kernel
theorem dL_law_268 : decode cL_law 268 = .ok (.aload_n 0, 1) := by decide +kernel
theorem dL_law_269 : decode cL_law 269 = .ok (.iload_n 3, 1) := by decide +kernel
theorem dL_law_270 : decode cL_law 270 = .ok (.iconst 2, 1) := by decide +kernel
theorem dL_law_271 : decode cL_law 271 = .ok (.iadd, 1) := by decide +kernel
theorem dL_law_272 : decode cL_law 272 = .ok (.iaload, 1) := by decide +kernel
theorem dL_law_273 : decode cL_law 273 = .ok (.invokevirtual 27, 3) := by decide +kernel
theorem dL_law_276 : decode cL_law 276 = .ok (.if_icmp .eq 659, 3) := by decide +kernel
theorem dL_law_279 : decode cL_law 279 = .ok (.iconst 0, 1) := by decide +kernel
theorem dL_law_280 : decode cL_law 280 = .ok (.ireturn, 1) := by decide +kernel
theorem dL_law_281 : decode cL_law 281 = .ok (.aload_n 1, 1) := by decide +kernel
theorem dL_law_282 : decode cL_law 282 = .ok (.aload_n 0, 1) := by decide +kernel
theorem dL_law_283 : decode cL_law 283 = .ok (.iload_n 3, 1) := by decide +kernel
theorem dL_law_284 : decode cL_law 284 = .ok (.iconst 1, 1) := by decide +kernel
theorem dL_law_285 : decode cL_law 285 = .ok (.iadd, 1) := by decide +kernel
theorem dL_law_286 : decode cL_law 286 = .ok (.iaload, 1) := by decide +kernel
theorem dL_law_287 : decode cL_law 287 = .ok (.aload_n 0, 1) := by decide +kernel
theorem dL_law_288 : decode cL_law 288 = .ok (.iload_n 3, 1) := by decide +kernel
theorem dL_law_289 : decode cL_law 289 = .ok (.iconst 2, 1) := by decide +kernel
theorem dL_law_290 : decode cL_law 290 = .ok (.iadd, 1) := by decide +kernel
theorem dL_law_291 : decode cL_law 291 = .ok (.iaload, 1) := by decide +kernel
theorem dL_law_292 : decode cL_law 292 = .ok (.invokevirtual 28, 3) := by decide +kernel
theorem dL_law_295 : decode cL_law 295 = .ok (.aload_n 2, 1) := by decide +kernel
theorem dL_law_296 : decode cL_law 296 = .ok (.aload_n 0, 1) := by decide +kernel
theorem dL_law_297 : decode cL_law 297 = .ok (.iload_n 3, 1) := by decide +kernel
theorem dL_law_298 : decode cL_law 298 = .ok (.iconst 1, 1) := by decide +kernel
theorem dL_law_299 : decode cL_law 299 = .ok (.iadd, 1) := by decide +kernel
theorem dL_law_300 : decode cL_law 300 = .ok (.iaload, 1) := by decide +kernel
theorem dL_law_301 : decode cL_law 301 = .ok (.aload_n 0, 1) := by decide +kernel
theorem dL_law_302 : decode cL_law 302 = .ok (.iload_n 3, 1) := by decide +kernel
theorem dL_law_303 : decode cL_law 303 = .ok (.iconst 2, 1) := by decide +kernel
theorem dL_law_304 : decode cL_law 304 = .ok (.iadd, 1) := by decide +kernel
theorem dL_law_305 : decode cL_law 305 = .ok (.iaload, 1) := by decide +kernel
theorem dL_law_306 : decode cL_law 306 = .ok (.invokevirtual 31, 3) := by decide +kernel
theorem dL_law_309 : decode cL_law 309 = .ok (.if_icmp .eq 626, 3) := by decide +kernel
theorem dL_law_312 : decode cL_law 312 = .ok (.iconst 0, 1) := by decide +kernel
theorem dL_law_313 : decode cL_law 313 = .ok (.ireturn, 1) := by decide +kernel
theorem dL_law_314 : decode cL_law 314 = .ok (.aload_n 1, 1) := by decide +kernel
theorem dL_law_315 : decode cL_law 315 = .ok (.aload_n 0, 1) := by decide +kernel
theorem dL_law_316 : decode cL_law 316 = .ok (.iload_n 3, 1) := by decide +kernel
theorem dL_law_317 : decode cL_law 317 = .ok (.iconst 1, 1) := by decide +kernel
theorem dL_law_318 : decode cL_law 318 = .ok (.iadd, 1) := by decide +kernel
theorem dL_law_319 : decode cL_law 319 = .ok (.iaload, 1) := by decide +kernel
theorem dL_law_320 : decode cL_law 320 = .ok (.aload_n 0, 1) := by decide +kernel
theorem dL_law_321 : decode cL_law 321 = .ok (.iload_n 3, 1) := by decide +kernel
theorem dL_law_322 : decode cL_law 322 = .ok (.iconst 2, 1) := by decide +kernel
theorem dL_law_323 : decode cL_law 323 = .ok (.iadd, 1) := by decide +kernel
theorem dL_law_324 : decode cL_law 324 = .ok (.iaload, 1) := by decide +kernel
theorem dL_law_325 : decode cL_law 325 = .ok (.invokevirtual 32, 3) := by decide +kernel
theorem dL_law_328 : decode cL_law 328 = .ok (.aload_n 2, 1) := by decide +kernel
theorem dL_law_329 : decode cL_law 329 = .ok (.aload_n 0, 1) := by decide +kernel
theorem dL_law_330 : decode cL_law 330 = .ok (.iload_n 3, 1) := by decide +kernel
theorem dL_law_331 : decode cL_law 331 = .ok (.iconst 1, 1) := by decide +kernel
theorem dL_law_332 : decode cL_law 332 = .ok (.iadd, 1) := by decide +kernel
theorem dL_law_333 : decode cL_law 333 = .ok (.iaload, 1) := by decide +kernel
theorem dL_law_334 : decode cL_law 334 = .ok (.aload_n 0, 1) := by decide +kernel
theorem dL_law_335 : decode cL_law 335 = .ok (.iload_n 3, 1) := by decide +kernel
theorem dL_law_336 : decode cL_law 336 = .ok (.iconst 2, 1) := by decide +kernel
theorem dL_law_337 : decode cL_law 337 = .ok (.iadd, 1) := by decide +kernel
theorem dL_law_338 : decode cL_law 338 = .ok (.iaload, 1) := by decide +kernel
theorem dL_law_339 : decode cL_law 339 = .ok (.invokevirtual 35, 3) := by decide +kernel
theorem dL_law_342 : decode cL_law 342 = .ok (.if_icmp .eq 593, 3) := by decide +kernel
theorem dL_law_345 : decode cL_law 345 = .ok (.iconst 0, 1) := by decide +kernel
theorem dL_law_346 : decode cL_law 346 = .ok (.ireturn, 1) := by decide +kernel
theorem dL_law_347 : decode cL_law 347 = .ok (.aload_n 1, 1) := by decide +kernel
theorem dL_law_348 : decode cL_law 348 = .ok (.aload_n 0, 1) := by decide +kernel
theorem dL_law_349 : decode cL_law 349 = .ok (.iload_n 3, 1) := by decide +kernel
theorem dL_law_350 : decode cL_law 350 = .ok (.iconst 1, 1) := by decide +kernel
theorem dL_law_351 : decode cL_law 351 = .ok (.iadd, 1) := by decide +kernel
theorem dL_law_352 : decode cL_law 352 = .ok (.iaload, 1) := by decide +kernel
theorem dL_law_353 : decode cL_law 353 = .ok (.invokevirtual 36, 3) := by decide +kernel
theorem dL_law_356 : decode cL_law 356 = .ok (.aload_n 2, 1) := by decide +kernel
theorem dL_law_357 : decode cL_law 357 = .ok (.aload_n 0, 1) := by decide +kernel
theorem dL_law_358 : decode cL_law 358 = .ok (.iload_n 3, 1) := by decide +kernel
theorem dL_law_359 : decode cL_law 359 = .ok (.iconst 1, 1) := by decide +kernel
theorem dL_law_360 : decode cL_law 360 = .ok (.iadd, 1) := by decide +kernel
theorem dL_law_361 : decode cL_law 361 = .ok (.iaload, 1) := by decide +kernel
theorem dL_law_362 : decode cL_law 362 = .ok (.invokevirtual 39, 3) := by decide +kernel
theorem dL_law_365 : decode cL_law 365 = .ok (.if_icmp .eq 570, 3) := by decide +kernel
theorem dL_law_368 : decode cL_law 368 = .ok (.iconst 0, 1) := by decide +kernel
theorem dL_law_369 : decode cL_law 369 = .ok (.ireturn, 1) := by decide +kernel
theorem dL_law_370 : decode cL_law 370 = .ok (.aload_n 1, 1) := by decide +kernel
theorem dL_law_371 : decode cL_law 371 = .ok (.aload_n 0, 1) := by decide +kernel
theorem dL_law_372 : decode cL_law 372 = .ok (.iload_n 3, 1) := by decide +kernel
theorem dL_law_373 : decode cL_law 373 = .ok (.iconst 1, 1) := by decide +kernel
theorem dL_law_374 : decode cL_law 374 = .ok (.iadd, 1) := by decide +kernel
theorem dL_law_375 : decode cL_law 375 = .ok (.iaload, 1) := by decide +kernel
theorem dL_law_376 : decode cL_law 376 = .ok (.aload_n 0, 1) := by decide +kernel
theorem dL_law_377 : decode cL_law 377 = .ok (.iload_n 3, 1) := by decide +kernel
theorem dL_law_378 : decode cL_law 378 = .ok (.iconst 2, 1) := by decide +kernel
theorem dL_law_379 : decode cL_law 379 = .ok (.iadd, 1) := by decide +kernel
theorem dL_law_380 : decode cL_law 380 = .ok (.iaload, 1) := by decide +kernel
theorem dL_law_381 : decode cL_law 381 = .ok (.invokevirtual 40, 3) := by decide +kernel
theorem dL_law_384 : decode cL_law 384 = .ok (.aload_n 2, 1) := by decide +kernel
theorem dL_law_385 : decode cL_law 385 = .ok (.aload_n 0, 1) := by decide +kernel
theorem dL_law_386 : decode cL_law 386 = .ok (.iload_n 3, 1) := by decide +kernel
theorem dL_law_387 : decode cL_law 387 = .ok (.iconst 1, 1) := by decide +kernel
theorem dL_law_388 : decode cL_law 388 = .ok (.iadd, 1) := by decide +kernel
theorem dL_law_389 : decode cL_law 389 = .ok (.iaload, 1) := by decide +kernel
theorem dL_law_390 : decode cL_law 390 = .ok (.aload_n 0, 1) := by decide +kernel
theorem dL_law_391 : decode cL_law 391 = .ok (.iload_n 3, 1) := by decide +kernel
theorem dL_law_392 : decode cL_law 392 = .ok (.iconst 2, 1) := by decide +kernel
theorem dL_law_393 : decode cL_law 393 = .ok (.iadd, 1) := by decide +kernel
theorem dL_law_394 : decode cL_law 394 = .ok (.iaload, 1) := by decide +kernel
theorem dL_law_395 : decode cL_law 395 = .ok (.invokevirtual 43, 3) := by decide +kernel
theorem dL_law_398 : decode cL_law 398 = .ok (.if_icmp .eq 537, 3) := by decide +kernel
theorem dL_law_401 : decode cL_law 401 = .ok (.iconst 0, 1) := by decide +kernel
theorem dL_law_402 : decode cL_law 402 = .ok (.ireturn, 1) := by decide +kernel
theorem dL_law_403 : decode cL_law 403 = .ok (.aload_n 1, 1) := by decide +kernel
theorem dL_law_404 : decode cL_law 404 = .ok (.invokevirtual 44, 3) := by decide +kernel
theorem dL_law_407 : decode cL_law 407 = .ok (.aload_n 2, 1) := by decide +kernel
theorem dL_law_408 : decode cL_law 408 = .ok (.invokevirtual 48, 3) := by decide +kernel
theorem dL_law_411 : decode cL_law 411 = .ok (.if_icmp .eq 524, 3) := by decide +kernel
theorem dL_law_414 : decode cL_law 414 = .ok (.iconst 0, 1) := by decide +kernel
theorem dL_law_415 : decode cL_law 415 = .ok (.ireturn, 1) := by decide +kernel
theorem dL_law_416 : decode cL_law 416 = .ok (.aload_n 1, 1) := by decide +kernel
theorem dL_law_417 : decode cL_law 417 = .ok (.aload_n 0, 1) := by decide +kernel
theorem dL_law_418 : decode cL_law 418 = .ok (.iload_n 3, 1) := by decide +kernel
theorem dL_law_419 : decode cL_law 419 = .ok (.iconst 1, 1) := by decide +kernel
theorem dL_law_420 : decode cL_law 420 = .ok (.iadd, 1) := by decide +kernel
theorem dL_law_421 : decode cL_law 421 = .ok (.iaload, 1) := by decide +kernel
theorem dL_law_422 : decode cL_law 422 = .ok (.aload_n 0, 1) := by decide +kernel
theorem dL_law_423 : decode cL_law 423 = .ok (.iload_n 3, 1) := by decide +kernel
theorem dL_law_424 : decode cL_law 424 = .ok (.iconst 2, 1) := by decide +kernel
theorem dL_law_425 : decode cL_law 425 = .ok (.iadd, 1) := by decide +kernel
theorem dL_law_426 : decode cL_law 426 = .ok (.iaload, 1) := by decide +kernel
theorem dL_law_427 : decode cL_law 427 = .ok (.aload_n 0, 1) := by decide +kernel
theorem dL_law_428 : decode cL_law 428 = .ok (.iload_n 3, 1) := by decide +kernel
theorem dL_law_429 : decode cL_law 429 = .ok (.iconst 3, 1) := by decide +kernel
theorem dL_law_430 : decode cL_law 430 = .ok (.iadd, 1) := by decide +kernel
theorem dL_law_431 : decode cL_law 431 = .ok (.iaload, 1) := by decide +kernel
theorem dL_law_432 : decode cL_law 432 = .ok (.invokevirtual 49, 3) := by decide +kernel
theorem dL_law_435 : decode cL_law 435 = .ok (.aload_n 2, 1) := by decide +kernel
theorem dL_law_436 : decode cL_law 436 = .ok (.aload_n 0, 1) := by decide +kernel
theorem dL_law_437 : decode cL_law 437 = .ok (.iload_n 3, 1) := by decide +kernel
theorem dL_law_438 : decode cL_law 438 = .ok (.iconst 1, 1) := by decide +kernel
theorem dL_law_439 : decode cL_law 439 = .ok (.iadd, 1) := by decide +kernel
theorem dL_law_440 : decode cL_law 440 = .ok (.iaload, 1) := by decide +kernel
theorem dL_law_441 : decode cL_law 441 = .ok (.aload_n 0, 1) := by decide +kernel
theorem dL_law_442 : decode cL_law 442 = .ok (.iload_n 3, 1) := by decide +kernel
theorem dL_law_443 : decode cL_law 443 = .ok (.iconst 2, 1) := by decide +kernel
theorem dL_law_444 : decode cL_law 444 = .ok (.iadd, 1) := by decide +kernel
theorem dL_law_445 : decode cL_law 445 = .ok (.iaload, 1) := by decide +kernel
theorem dL_law_446 : decode cL_law 446 = .ok (.aload_n 0, 1) := by decide +kernel
theorem dL_law_447 : decode cL_law 447 = .ok (.iload_n 3, 1) := by decide +kernel
theorem dL_law_448 : decode cL_law 448 = .ok (.iconst 3, 1) := by decide +kernel
theorem dL_law_449 : decode cL_law 449 = .ok (.iadd, 1) := by decide +kernel
theorem dL_law_450 : decode cL_law 450 = .ok (.iaload, 1) := by decide +kernel
theorem dL_law_451 : decode cL_law 451 = .ok (.invokevirtual 53, 3) := by decide +kernel
theorem dL_law_454 : decode cL_law 454 = .ok (.if_icmp .eq 481, 3) := by decide +kernel
theorem dL_law_457 : decode cL_law 457 = .ok (.iconst 0, 1) := by decide +kernel
theorem dL_law_458 : decode cL_law 458 = .ok (.ireturn, 1) := by decide +kernel
theorem dL_law_459 : decode cL_law 459 = .ok (.aload_n 1, 1) := by decide +kernel
theorem dL_law_460 : decode cL_law 460 = .ok (.aload_n 0, 1) := by decide +kernel
theorem dL_law_461 : decode cL_law 461 = .ok (.iload_n 3, 1) := by decide +kernel
theorem dL_law_462 : decode cL_law 462 = .ok (.iconst 1, 1) := by decide +kernel
theorem dL_law_463 : decode cL_law 463 = .ok (.iadd, 1) := by decide +kernel
theorem dL_law_464 : decode cL_law 464 = .ok (.iaload, 1) := by decide +kernel
theorem dL_law_465 : decode cL_law 465 = .ok (.aload_n 0, 1) := by decide +kernel
theorem dL_law_466 : decode cL_law 466 = .ok (.iload_n 3, 1) := by decide +kernel
theorem dL_law_467 : decode cL_law 467 = .ok (.iconst 2, 1) := by decide +kernel
theorem dL_law_468 : decode cL_law 468 = .ok (.iadd, 1) := by decide +kernel
theorem dL_law_469 : decode cL_law 469 = .ok (.iaload, 1) := by decide +kernel
theorem dL_law_470 : decode cL_law 470 = .ok (.invokevirtual 54, 3) := by decide +kernel
theorem dL_law_473 : decode cL_law 473 = .ok (.aload_n 2, 1) := by decide +kernel
theorem dL_law_474 : decode cL_law 474 = .ok (.aload_n 0, 1) := by decide +kernel
theorem dL_law_475 : decode cL_law 475 = .ok (.iload_n 3, 1) := by decide +kernel
theorem dL_law_476 : decode cL_law 476 = .ok (.iconst 1, 1) := by decide +kernel
theorem dL_law_477 : decode cL_law 477 = .ok (.iadd, 1) := by decide +kernel
theorem dL_law_478 : decode cL_law 478 = .ok (.iaload, 1) := by decide +kernel
theorem dL_law_479 : decode cL_law 479 = .ok (.aload_n 0, 1) := by decide +kernel
theorem dL_law_480 : decode cL_law 480 = .ok (.iload_n 3, 1) := by decide +kernel
theorem dL_law_481 : decode cL_law 481 = .ok (.iconst 2, 1) := by decide +kernel
theorem dL_law_482 : decode cL_law 482 = .ok (.iadd, 1) := by decide +kernel
theorem dL_law_483 : decode cL_law 483 = .ok (.iaload, 1) := by decide +kernel
theorem dL_law_484 : decode cL_law 484 = .ok (.invokevirtual 57, 3) := by decide +kernel
theorem dL_law_487 : decode cL_law 487 = .ok (.if_icmp .eq 448, 3) := by decide +kernel
theorem dL_law_490 : decode cL_law 490 = .ok (.iconst 0, 1) := by decide +kernel
theorem dL_law_491 : decode cL_law 491 = .ok (.ireturn, 1) := by decide +kernel
theorem dL_law_492 : decode cL_law 492 = .ok (.aload_n 1, 1) := by decide +kernel
theorem dL_law_493 : decode cL_law 493 = .ok (.aload_n 0, 1) := by decide +kernel
theorem dL_law_494 : decode cL_law 494 = .ok (.iload_n 3, 1) := by decide +kernel
theorem dL_law_495 : decode cL_law 495 = .ok (.iconst 1, 1) := by decide +kernel
theorem dL_law_496 : decode cL_law 496 = .ok (.iadd, 1) := by decide +kernel
theorem dL_law_497 : decode cL_law 497 = .ok (.iaload, 1) := by decide +kernel
theorem dL_law_498 : decode cL_law 498 = .ok (.invokevirtual 58, 3) := by decide +kernel
theorem dL_law_501 : decode cL_law 501 = .ok (.aload_n 2, 1) := by decide +kernel
theorem dL_law_502 : decode cL_law 502 = .ok (.aload_n 0, 1) := by decide +kernel
theorem dL_law_503 : decode cL_law 503 = .ok (.iload_n 3, 1) := by decide +kernel
theorem dL_law_504 : decode cL_law 504 = .ok (.iconst 1, 1) := by decide +kernel
theorem dL_law_505 : decode cL_law 505 = .ok (.iadd, 1) := by decide +kernel
theorem dL_law_506 : decode cL_law 506 = .ok (.iaload, 1) := by decide +kernel
theorem dL_law_507 : decode cL_law 507 = .ok (.invokevirtual 61, 3) := by decide +kernel
theorem dL_law_510 : decode cL_law 510 = .ok (.if_icmp .eq 425, 3) := by decide +kernel
theorem dL_law_513 : decode cL_law 513 = .ok (.iconst 0, 1) := by decide +kernel
theorem dL_law_514 : decode cL_law 514 = .ok (.ireturn, 1) := by decide +kernel
theorem dL_law_515 : decode cL_law 515 = .ok (.aload_n 1, 1) := by decide +kernel
theorem dL_law_516 : decode cL_law 516 = .ok (.aload_n 0, 1) := by decide +kernel
theorem dL_law_517 : decode cL_law 517 = .ok (.iload_n 3, 1) := by decide +kernel
theorem dL_law_518 : decode cL_law 518 = .ok (.iconst 1, 1) := by decide +kernel
theorem dL_law_519 : decode cL_law 519 = .ok (.iadd, 1) := by decide +kernel
theorem dL_law_520 : decode cL_law 520 = .ok (.iaload, 1) := by decide +kernel
theorem dL_law_521 : decode cL_law 521 = .ok (.aload_n 0, 1) := by decide +kernel
theorem dL_law_522 : decode cL_law 522 = .ok (.iload_n 3, 1) := by decide +kernel
theorem dL_law_523 : decode cL_law 523 = .ok (.iconst 2, 1) := by decide +kernel
theorem dL_law_524 : decode cL_law 524 = .ok (.iadd, 1) := by decide +kernel
theorem dL_law_525 : decode cL_law 525 = .ok (.iaload, 1) := by decide +kernel
theorem dL_law_526 : decode cL_law 526 = .ok (.invokevirtual 62, 3) := by decide +kernel
theorem dL_law_529 : decode cL_law 529 = .ok (.aload_n 2, 1) := by decide +kernel
theorem dL_law_530 : decode cL_law 530 = .ok (.aload_n 0, 1) := by decide +kernel
theorem dL_law_531 : decode cL_law 531 = .ok (.iload_n 3, 1) := by decide +kernel
theorem dL_law_532 : decode cL_law 532 = .ok (.iconst 1, 1) := by decide +kernel
theorem dL_law_533 : decode cL_law 533 = .ok (.iadd, 1) := by decide +kernel
theorem dL_law_534 : decode cL_law 534 = .ok (.iaload, 1) := by decide +kernel
theorem dL_law_535 : decode cL_law 535 = .ok (.aload_n 0, 1) := by decide +kernel
theorem dL_law_536 : decode cL_law 536 = .ok (.iload_n 3, 1) := by decide +kernel
theorem dL_law_537 : decode cL_law 537 = .ok (.iconst 2, 1) := by decide +kernel
theorem dL_law_538 : decode cL_law 538 = .ok (.iadd, 1) := by decide +kernel
theorem dL_law_539 : decode cL_law 539 = .ok (.iaload, 1) := by decide +kernel
theorem dL_law_540 : decode cL_law 540 = .ok (.invokevirtual 65, 3) := by decide +kernel
theorem dL_law_543 : decode cL_law 543 = .ok (.if_icmp .eq 392, 3) := by decide +kernel
theorem dL_law_546 : decode cL_law 546 = .ok (.iconst 0, 1) := by decide +kernel
theorem dL_law_547 : decode cL_law 547 = .ok (.ireturn, 1) := by decide +kernel
theorem dL_law_548 : decode cL_law 548 = .ok (.aload_n 1, 1) := by decide +kernel
theorem dL_law_549 : decode cL_law 549 = .ok (.aload_n 0, 1) := by decide +kernel
theorem dL_law_550 : decode cL_law 550 = .ok (.iload_n 3, 1) := by decide +kernel
theorem dL_law_551 : decode cL_law 551 = .ok (.iconst 1, 1) := by decide +kernel
theorem dL_law_552 : decode cL_law 552 = .ok (.iadd, 1) := by decide +kernel
theorem dL_law_553 : decode cL_law 553 = .ok (.iaload, 1) := by decide +kernel
theorem dL_law_554 : decode cL_law 554 = .ok (.aload_n 0, 1) := by decide +kernel
theorem dL_law_555 : decode cL_law 555 = .ok (.iload_n 3, 1) := by decide +kernel
theorem dL_law_556 : decode cL_law 556 = .ok (.iconst 2, 1) := by decide +kernel
theorem dL_law_557 : decode cL_law 557 = .ok (.iadd, 1) := by decide +kernel
theorem dL_law_558 : decode cL_law 558 = .ok (.iaload, 1) := by decide +kernel
theorem dL_law_559 : decode cL_law 559 = .ok (.aload_n 0, 1) := by decide +kernel
theorem dL_law_560 : decode cL_law 560 = .ok (.iload_n 3, 1) := by decide +kernel
theorem dL_law_561 : decode cL_law 561 = .ok (.iconst 3, 1) := by decide +kernel
theorem dL_law_562 : decode cL_law 562 = .ok (.iadd, 1) := by decide +kernel
theorem dL_law_563 : decode cL_law 563 = .ok (.iaload, 1) := by decide +kernel
theorem dL_law_564 : decode cL_law 564 = .ok (.invokevirtual 66, 3) := by decide +kernel
theorem dL_law_567 : decode cL_law 567 = .ok (.aload_n 2, 1) := by decide +kernel
theorem dL_law_568 : decode cL_law 568 = .ok (.aload_n 0, 1) := by decide +kernel
theorem dL_law_569 : decode cL_law 569 = .ok (.iload_n 3, 1) := by decide +kernel
theorem dL_law_570 : decode cL_law 570 = .ok (.iconst 1, 1) := by decide +kernel
theorem dL_law_571 : decode cL_law 571 = .ok (.iadd, 1) := by decide +kernel
theorem dL_law_572 : decode cL_law 572 = .ok (.iaload, 1) := by decide +kernel
theorem dL_law_573 : decode cL_law 573 = .ok (.aload_n 0, 1) := by decide +kernel
theorem dL_law_574 : decode cL_law 574 = .ok (.iload_n 3, 1) := by decide +kernel
theorem dL_law_575 : decode cL_law 575 = .ok (.iconst 2, 1) := by decide +kernel
theorem dL_law_576 : decode cL_law 576 = .ok (.iadd, 1) := by decide +kernel
theorem dL_law_577 : decode cL_law 577 = .ok (.iaload, 1) := by decide +kernel
theorem dL_law_578 : decode cL_law 578 = .ok (.aload_n 0, 1) := by decide +kernel
theorem dL_law_579 : decode cL_law 579 = .ok (.iload_n 3, 1) := by decide +kernel
theorem dL_law_580 : decode cL_law 580 = .ok (.iconst 3, 1) := by decide +kernel
theorem dL_law_581 : decode cL_law 581 = .ok (.iadd, 1) := by decide +kernel
theorem dL_law_582 : decode cL_law 582 = .ok (.iaload, 1) := by decide +kernel
theorem dL_law_583 : decode cL_law 583 = .ok (.invokevirtual 69, 3) := by decide +kernel
theorem dL_law_586 : decode cL_law 586 = .ok (.if_icmp .eq 349, 3) := by decide +kernel
theorem dL_law_589 : decode cL_law 589 = .ok (.iconst 0, 1) := by decide +kernel
theorem dL_law_590 : decode cL_law 590 = .ok (.ireturn, 1) := by decide +kernel
theorem dL_law_591 : decode cL_law 591 = .ok (.aload_n 1, 1) := by decide +kernel
theorem dL_law_592 : decode cL_law 592 = .ok (.aload_n 0, 1) := by decide +kernel
theorem dL_law_593 : decode cL_law 593 = .ok (.iload_n 3, 1) := by decide +kernel
theorem dL_law_594 : decode cL_law 594 = .ok (.iconst 1, 1) := by decide +kernel
theorem dL_law_595 : decode cL_law 595 = .ok (.iadd, 1) := by decide +kernel
theorem dL_law_596 : decode cL_law 596 = .ok (.iaload, 1) := by decide +kernel
theorem dL_law_597 : decode cL_law 597 = .ok (.aload_n 0, 1) := by decide +kernel
theorem dL_law_598 : decode cL_law 598 = .ok (.iload_n 3, 1) := by decide +kernel
theorem dL_law_599 : decode cL_law 599 = .ok (.iconst 2, 1) := by decide +kernel
theorem dL_law_600 : decode cL_law 600 = .ok (.iadd, 1) := by decide +kernel
theorem dL_law_601 : decode cL_law 601 = .ok (.iaload, 1) := by decide +kernel
theorem dL_law_602 : decode cL_law 602 = .ok (.invokevirtual 70, 3) := by decide +kernel
theorem dL_law_605 : decode cL_law 605 = .ok (.aload_n 2, 1) := by decide +kernel
theorem dL_law_606 : decode cL_law 606 = .ok (.aload_n 0, 1) := by decide +kernel
theorem dL_law_607 : decode cL_law 607 = .ok (.iload_n 3, 1) := by decide +kernel
theorem dL_law_608 : decode cL_law 608 = .ok (.iconst 1, 1) := by decide +kernel
theorem dL_law_609 : decode cL_law 609 = .ok (.iadd, 1) := by decide +kernel
theorem dL_law_610 : decode cL_law 610 = .ok (.iaload, 1) := by decide +kernel
theorem dL_law_611 : decode cL_law 611 = .ok (.aload_n 0, 1) := by decide +kernel
theorem dL_law_612 : decode cL_law 612 = .ok (.iload_n 3, 1) := by decide +kernel
theorem dL_law_613 : decode cL_law 613 = .ok (.iconst 2, 1) := by decide +kernel
theorem dL_law_614 : decode cL_law 614 = .ok (.iadd, 1) := by decide +kernel
theorem dL_law_615 : decode cL_law 615 = .ok (.iaload, 1) := by decide +kernel
theorem dL_law_616 : decode cL_law 616 = .ok (.invokevirtual 73, 3) := by decide +kernel
theorem dL_law_619 : decode cL_law 619 = .ok (.if_icmp .eq 316, 3) := by decide +kernel
theorem dL_law_622 : decode cL_law 622 = .ok (.iconst 0, 1) := by decide +kernel
theorem dL_law_623 : decode cL_law 623 = .ok (.ireturn, 1) := by decide +kernel
theorem dL_law_624 : decode cL_law 624 = .ok (.aload_n 1, 1) := by decide +kernel
theorem dL_law_625 : decode cL_law 625 = .ok (.aload_n 0, 1) := by decide +kernel
theorem dL_law_626 : decode cL_law 626 = .ok (.iload_n 3, 1) := by decide +kernel
theorem dL_law_627 : decode cL_law 627 = .ok (.iconst 1, 1) := by decide +kernel
theorem dL_law_628 : decode cL_law 628 = .ok (.iadd, 1) := by decide +kernel
theorem dL_law_629 : decode cL_law 629 = .ok (.iaload, 1) := by decide +kernel
theorem dL_law_630 : decode cL_law 630 = .ok (.invokevirtual 74, 3) := by decide +kernel
theorem dL_law_633 : decode cL_law 633 = .ok (.aload_n 2, 1) := by decide +kernel
theorem dL_law_634 : decode cL_law 634 = .ok (.aload_n 0, 1) := by decide +kernel
theorem dL_law_635 : decode cL_law 635 = .ok (.iload_n 3, 1) := by decide +kernel
theorem dL_law_636 : decode cL_law 636 = .ok (.iconst 1, 1) := by decide +kernel
theorem dL_law_637 : decode cL_law 637 = .ok (.iadd, 1) := by decide +kernel
theorem dL_law_638 : decode cL_law 638 = .ok (.iaload, 1) := by decide +kernel
theorem dL_law_639 : decode cL_law 639 = .ok (.invokevirtual 77, 3) := by decide +kernel
theorem dL_law_642 : decode cL_law 642 = .ok (.if_icmp .eq 293, 3) := by decide +kernel
theorem dL_law_645 : decode cL_law 645 = .ok (.iconst 0, 1) := by decide +kernel
theorem dL_law_646 : decode cL_law 646 = .ok (.ireturn, 1) := by decide +kernel
theorem dL_law_647 : decode cL_law 647 = .ok (.aload_n 1, 1) := by decide +kernel
theorem dL_law_648 : decode cL_law 648 = .ok (.invokevirtual 78, 3) := by decide +kernel
theorem dL_law_651 : decode cL_law 651 = .ok (.aload_n 2, 1) := by decide +kernel
theorem dL_law_652 : decode cL_law 652 = .ok (.invokevirtual 81, 3) := by decide +kernel
theorem dL_law_655 : decode cL_law 655 = .ok (.if_icmp .eq 280, 3) := by decide +kernel
theorem dL_law_658 : decode cL_law 658 = .ok (.iconst 0, 1) := by decide +kernel
theorem dL_law_659 : decode cL_law 659 = .ok (.ireturn, 1) := by decide +kernel
theorem dL_law_660 : decode cL_law 660 = .ok (.aload_n 1, 1) := by decide +kernel
theorem dL_law_661 : decode cL_law 661 = .ok (.aload_n 0, 1) := by decide +kernel
theorem dL_law_662 : decode cL_law 662 = .ok (.iload_n 3, 1) := by decide +kernel
theorem dL_law_663 : decode cL_law 663 = .ok (.iconst 1, 1) := by decide +kernel
theorem dL_law_664 : decode cL_law 664 = .ok (.iadd, 1) := by decide +kernel
theorem dL_law_665 : decode cL_law 665 = .ok (.iaload, 1) := by decide +kernel
theorem dL_law_666 : decode cL_law 666 = .ok (.invokevirtual 82, 3) := by decide +kernel
theorem dL_law_669 : decode cL_law 669 = .ok (.aload_n 2, 1) := by decide +kernel
theorem dL_law_670 : decode cL_law 670 = .ok (.aload_n 0, 1) := by decide +kernel
theorem dL_law_671 : decode cL_law 671 = .ok (.iload_n 3, 1) := by decide +kernel
theorem dL_law_672 : decode cL_law 672 = .ok (.iconst 1, 1) := by decide +kernel
theorem dL_law_673 : decode cL_law 673 = .ok (.iadd, 1) := by decide +kernel
theorem dL_law_674 : decode cL_law 674 = .ok (.iaload, 1) := by decide +kernel
theorem dL_law_675 : decode cL_law 675 = .ok (.invokevirtual 85, 3) := by decide +kernel
theorem dL_law_678 : decode cL_law 678 = .ok (.if_icmp .eq 257, 3) := by decide +kernel
theorem dL_law_681 : decode cL_law 681 = .ok (.iconst 0, 1) := by decide +kernel
theorem dL_law_682 : decode cL_law 682 = .ok (.ireturn, 1) := by decide +kernel
theorem dL_law_683 : decode cL_law 683 = .ok (.aload_n 1, 1) := by decide +kernel
theorem dL_law_684 : decode cL_law 684 = .ok (.invokevirtual 86, 3) := by decide +kernel
theorem dL_law_687 : decode cL_law 687 = .ok (.aload_n 2, 1) := by decide +kernel
theorem dL_law_688 : decode cL_law 688 = .ok (.invokevirtual 89, 3) := by decide +kernel
theorem dL_law_691 : decode cL_law 691 = .ok (.if_icmp .eq 244, 3) := by decide +kernel
theorem dL_law_694 : decode cL_law 694 = .ok (.iconst 0, 1) := by decide +kernel
theorem dL_law_695 : decode cL_law 695 = .ok (.ireturn, 1) := by decide +kernel
theorem dL_law_696 : decode cL_law 696 = .ok (.aload_n 1, 1) := by decide +kernel
theorem dL_law_697 : decode cL_law 697 = .ok (.aload_n 0, 1) := by decide +kernel
theorem dL_law_698 : decode cL_law 698 = .ok (.iload_n 3, 1) := by decide +kernel
theorem dL_law_699 : decode cL_law 699 = .ok (.iconst 1, 1) := by decide +kernel
theorem dL_law_700 : decode cL_law 700 = .ok (.iadd, 1) := by decide +kernel
theorem dL_law_701 : decode cL_law 701 = .ok (.iaload, 1) := by decide +kernel
theorem dL_law_702 : decode cL_law 702 = .ok (.aload_n 0, 1) := by decide +kernel
theorem dL_law_703 : decode cL_law 703 = .ok (.iload_n 3, 1) := by decide +kernel
theorem dL_law_704 : decode cL_law 704 = .ok (.iconst 2, 1) := by decide +kernel
theorem dL_law_705 : decode cL_law 705 = .ok (.iadd, 1) := by decide +kernel
theorem dL_law_706 : decode cL_law 706 = .ok (.iaload, 1) := by decide +kernel
theorem dL_law_707 : decode cL_law 707 = .ok (.invokevirtual 90, 3) := by decide +kernel
theorem dL_law_710 : decode cL_law 710 = .ok (.aload_n 2, 1) := by decide +kernel
theorem dL_law_711 : decode cL_law 711 = .ok (.aload_n 0, 1) := by decide +kernel
theorem dL_law_712 : decode cL_law 712 = .ok (.iload_n 3, 1) := by decide +kernel
theorem dL_law_713 : decode cL_law 713 = .ok (.iconst 1, 1) := by decide +kernel
theorem dL_law_714 : decode cL_law 714 = .ok (.iadd, 1) := by decide +kernel
theorem dL_law_715 : decode cL_law 715 = .ok (.iaload, 1) := by decide +kernel
theorem dL_law_716 : decode cL_law 716 = .ok (.aload_n 0, 1) := by decide +kernel
theorem dL_law_717 : decode cL_law 717 = .ok (.iload_n 3, 1) := by decide +kernel
theorem dL_law_718 : decode cL_law 718 = .ok (.iconst 2, 1) := by decide +kernel
theorem dL_law_719 : decode cL_law 719 = .ok (.iadd, 1) := by decide +kernel
theorem dL_law_720 : decode cL_law 720 = .ok (.iaload, 1) := by decide +kernel
theorem dL_law_721 : decode cL_law 721 = .ok (.invokevirtual 93, 3) := by decide +kernel
theorem dL_law_724 : decode cL_law 724 = .ok (.if_icmp .eq 211, 3) := by decide +kernel
theorem dL_law_727 : decode cL_law 727 = .ok (.iconst 0, 1) := by decide +kernel
theorem dL_law_728 : decode cL_law 728 = .ok (.ireturn, 1) := by decide +kernel
theorem dL_law_729 : decode cL_law 729 = .ok (.aload_n 1, 1) := by decide +kernel
theorem dL_law_730 : decode cL_law 730 = .ok (.aload_n 0, 1) := by decide +kernel
theorem dL_law_731 : decode cL_law 731 = .ok (.iload_n 3, 1) := by decide +kernel
theorem dL_law_732 : decode cL_law 732 = .ok (.iconst 1, 1) := by decide +kernel
theorem dL_law_733 : decode cL_law 733 = .ok (.iadd, 1) := by decide +kernel
theorem dL_law_734 : decode cL_law 734 = .ok (.iaload, 1) := by decide +kernel
theorem dL_law_735 : decode cL_law 735 = .ok (.invokevirtual 94, 3) := by decide +kernel
theorem dL_law_738 : decode cL_law 738 = .ok (.aload_n 2, 1) := by decide +kernel
theorem dL_law_739 : decode cL_law 739 = .ok (.aload_n 0, 1) := by decide +kernel
theorem dL_law_740 : decode cL_law 740 = .ok (.iload_n 3, 1) := by decide +kernel
theorem dL_law_741 : decode cL_law 741 = .ok (.iconst 1, 1) := by decide +kernel
theorem dL_law_742 : decode cL_law 742 = .ok (.iadd, 1) := by decide +kernel
theorem dL_law_743 : decode cL_law 743 = .ok (.iaload, 1) := by decide +kernel
theorem dL_law_744 : decode cL_law 744 = .ok (.invokevirtual 97, 3) := by decide +kernel
theorem dL_law_747 : decode cL_law 747 = .ok (.if_icmp .eq 188, 3) := by decide +kernel
theorem dL_law_750 : decode cL_law 750 = .ok (.iconst 0, 1) := by decide +kernel
theorem dL_law_751 : decode cL_law 751 = .ok (.ireturn, 1) := by decide +kernel
theorem dL_law_752 : decode cL_law 752 = .ok (.aload_n 1, 1) := by decide +kernel
theorem dL_law_753 : decode cL_law 753 = .ok (.aload_n 0, 1) := by decide +kernel
theorem dL_law_754 : decode cL_law 754 = .ok (.iload_n 3, 1) := by decide +kernel
theorem dL_law_755 : decode cL_law 755 = .ok (.iconst 1, 1) := by decide +kernel
theorem dL_law_756 : decode cL_law 756 = .ok (.iadd, 1) := by decide +kernel
theorem dL_law_757 : decode cL_law 757 = .ok (.iaload, 1) := by decide +kernel
theorem dL_law_758 : decode cL_law 758 = .ok (.invokevirtual 98, 3) := by decide +kernel
theorem dL_law_761 : decode cL_law 761 = .ok (.aload_n 2, 1) := by decide +kernel
theorem dL_law_762 : decode cL_law 762 = .ok (.aload_n 0, 1) := by decide +kernel
theorem dL_law_763 : decode cL_law 763 = .ok (.iload_n 3, 1) := by decide +kernel
theorem dL_law_764 : decode cL_law 764 = .ok (.iconst 1, 1) := by decide +kernel
theorem dL_law_765 : decode cL_law 765 = .ok (.iadd, 1) := by decide +kernel
theorem dL_law_766 : decode cL_law 766 = .ok (.iaload, 1) := by decide +kernel
theorem dL_law_767 : decode cL_law 767 = .ok (.invokevirtual 101, 3) := by decide +kernel
theorem dL_law_770 : decode cL_law 770 = .ok (.if_icmp .eq 165, 3) := by decide +kernel
theorem dL_law_773 : decode cL_law 773 = .ok (.iconst 0, 1) := by decide +kernel
theorem dL_law_774 : decode cL_law 774 = .ok (.ireturn, 1) := by decide +kernel
theorem dL_law_775 : decode cL_law 775 = .ok (.aload_n 1, 1) := by decide +kernel
theorem dL_law_776 : decode cL_law 776 = .ok (.aload_n 0, 1) := by decide +kernel
theorem dL_law_777 : decode cL_law 777 = .ok (.iload_n 3, 1) := by decide +kernel
theorem dL_law_778 : decode cL_law 778 = .ok (.iconst 1, 1) := by decide +kernel
theorem dL_law_779 : decode cL_law 779 = .ok (.iadd, 1) := by decide +kernel
theorem dL_law_780 : decode cL_law 780 = .ok (.iaload, 1) := by decide +kernel
theorem dL_law_781 : decode cL_law 781 = .ok (.invokevirtual 102, 3) := by decide +kernel
theorem dL_law_784 : decode cL_law 784 = .ok (.aload_n 2, 1) := by decide +kernel
theorem dL_law_785 : decode cL_law 785 = .ok (.aload_n 0, 1) := by decide +kernel
theorem dL_law_786 : decode cL_law 786 = .ok (.iload_n 3, 1) := by decide +kernel
theorem dL_law_787 : decode cL_law 787 = .ok (.iconst 1, 1) := by decide +kernel
theorem dL_law_788 : decode cL_law 788 = .ok (.iadd, 1) := by decide +kernel
theorem dL_law_789 : decode cL_law 789 = .ok (.iaload, 1) := by decide +kernel
theorem dL_law_790 : decode cL_law 790 = .ok (.invokevirtual 105, 3) := by decide +kernel
theorem dL_law_793 : decode cL_law 793 = .ok (.if_icmp .eq 142, 3) := by decide +kernel
theorem dL_law_796 : decode cL_law 796 = .ok (.iconst 0, 1) := by decide +kernel
theorem dL_law_797 : decode cL_law 797 = .ok (.ireturn, 1) := by decide +kernel
theorem dL_law_798 : decode cL_law 798 = .ok (.aload_n 1, 1) := by decide +kernel
theorem dL_law_799 : decode cL_law 799 = .ok (.invokevirtual 106, 3) := by decide +kernel
theorem dL_law_802 : decode cL_law 802 = .ok (.aload_n 2, 1) := by decide +kernel
theorem dL_law_803 : decode cL_law 803 = .ok (.invokevirtual 109, 3) := by decide +kernel
theorem dL_law_806 : decode cL_law 806 = .ok (.if_icmp .eq 129, 3) := by decide +kernel
theorem dL_law_809 : decode cL_law 809 = .ok (.iconst 0, 1) := by decide +kernel
theorem dL_law_810 : decode cL_law 810 = .ok (.ireturn, 1) := by decide +kernel
theorem dL_law_811 : decode cL_law 811 = .ok (.aload_n 1, 1) := by decide +kernel
theorem dL_law_812 : decode cL_law 812 = .ok (.aload_n 0, 1) := by decide +kernel
theorem dL_law_813 : decode cL_law 813 = .ok (.iload_n 3, 1) := by decide +kernel
theorem dL_law_814 : decode cL_law 814 = .ok (.iconst 1, 1) := by decide +kernel
theorem dL_law_815 : decode cL_law 815 = .ok (.iadd, 1) := by decide +kernel
theorem dL_law_816 : decode cL_law 816 = .ok (.iaload, 1) := by decide +kernel
theorem dL_law_817 : decode cL_law 817 = .ok (.invokevirtual 110, 3) := by decide +kernel
theorem dL_law_820 : decode cL_law 820 = .ok (.aload_n 2, 1) := by decide +kernel
theorem dL_law_821 : decode cL_law 821 = .ok (.aload_n 0, 1) := by decide +kernel
theorem dL_law_822 : decode cL_law 822 = .ok (.iload_n 3, 1) := by decide +kernel
theorem dL_law_823 : decode cL_law 823 = .ok (.iconst 1, 1) := by decide +kernel
theorem dL_law_824 : decode cL_law 824 = .ok (.iadd, 1) := by decide +kernel
theorem dL_law_825 : decode cL_law 825 = .ok (.iaload, 1) := by decide +kernel
theorem dL_law_826 : decode cL_law 826 = .ok (.invokevirtual 113, 3) := by decide +kernel
theorem dL_law_829 : decode cL_law 829 = .ok (.if_icmp .eq 106, 3) := by decide +kernel
theorem dL_law_832 : decode cL_law 832 = .ok (.iconst 0, 1) := by decide +kernel
theorem dL_law_833 : decode cL_law 833 = .ok (.ireturn, 1) := by decide +kernel
theorem dL_law_834 : decode cL_law 834 = .ok (.aload_n 1, 1) := by decide +kernel
theorem dL_law_835 : decode cL_law 835 = .ok (.aload_n 0, 1) := by decide +kernel
theorem dL_law_836 : decode cL_law 836 = .ok (.iload_n 3, 1) := by decide +kernel
theorem dL_law_837 : decode cL_law 837 = .ok (.iconst 1, 1) := by decide +kernel
theorem dL_law_838 : decode cL_law 838 = .ok (.iadd, 1) := by decide +kernel
theorem dL_law_839 : decode cL_law 839 = .ok (.iaload, 1) := by decide +kernel
theorem dL_law_840 : decode cL_law 840 = .ok (.invokevirtual 114, 3) := by decide +kernel
theorem dL_law_843 : decode cL_law 843 = .ok (.aload_n 2, 1) := by decide +kernel
theorem dL_law_844 : decode cL_law 844 = .ok (.aload_n 0, 1) := by decide +kernel
theorem dL_law_845 : decode cL_law 845 = .ok (.iload_n 3, 1) := by decide +kernel
theorem dL_law_846 : decode cL_law 846 = .ok (.iconst 1, 1) := by decide +kernel
theorem dL_law_847 : decode cL_law 847 = .ok (.iadd, 1) := by decide +kernel
theorem dL_law_848 : decode cL_law 848 = .ok (.iaload, 1) := by decide +kernel
theorem dL_law_849 : decode cL_law 849 = .ok (.invokevirtual 117, 3) := by decide +kernel
theorem dL_law_852 : decode cL_law 852 = .ok (.if_icmp .eq 83, 3) := by decide +kernel
theorem dL_law_855 : decode cL_law 855 = .ok (.iconst 0, 1) := by decide +kernel
theorem dL_law_856 : decode cL_law 856 = .ok (.ireturn, 1) := by decide +kernel
theorem dL_law_857 : decode cL_law 857 = .ok (.aload_n 1, 1) := by decide +kernel
theorem dL_law_858 : decode cL_law 858 = .ok (.invokevirtual 118, 3) := by decide +kernel
theorem dL_law_861 : decode cL_law 861 = .ok (.aload_n 2, 1) := by decide +kernel
theorem dL_law_862 : decode cL_law 862 = .ok (.invokevirtual 121, 3) := by decide +kernel
theorem dL_law_865 : decode cL_law 865 = .ok (.if_icmp .eq 70, 3) := by decide +kernel
theorem dL_law_868 : decode cL_law 868 = .ok (.iconst 0, 1) := by decide +kernel
theorem dL_law_869 : decode cL_law 869 = .ok (.ireturn, 1) := by decide +kernel
theorem dL_law_870 : decode cL_law 870 = .ok (.aload_n 1, 1) := by decide +kernel
theorem dL_law_871 : decode cL_law 871 = .ok (.invokevirtual 122, 3) := by decide +kernel
theorem dL_law_874 : decode cL_law 874 = .ok (.aload_n 2, 1) := by decide +kernel
theorem dL_law_875 : decode cL_law 875 = .ok (.invokevirtual 125, 3) := by decide +kernel
theorem dL_law_878 : decode cL_law 878 = .ok (.if_icmp .eq 57, 3) := by decide +kernel
theorem dL_law_881 : decode cL_law 881 = .ok (.iconst 0, 1) := by decide +kernel
theorem dL_law_882 : decode cL_law 882 = .ok (.ireturn, 1) := by decide +kernel
theorem dL_law_883 : decode cL_law 883 = .ok (.aload_n 1, 1) := by decide +kernel
theorem dL_law_884 : decode cL_law 884 = .ok (.invokevirtual 126, 3) := by decide +kernel
theorem dL_law_887 : decode cL_law 887 = .ok (.aload_n 2, 1) := by decide +kernel
theorem dL_law_888 : decode cL_law 888 = .ok (.invokevirtual 129, 3) := by decide +kernel
theorem dL_law_891 : decode cL_law 891 = .ok (.if_icmp .eq 44, 3) := by decide +kernel
theorem dL_law_894 : decode cL_law 894 = .ok (.iconst 0, 1) := by decide +kernel
theorem dL_law_895 : decode cL_law 895 = .ok (.ireturn, 1) := by decide +kernel
theorem dL_law_896 : decode cL_law 896 = .ok (.aload_n 1, 1) := by decide +kernel
theorem dL_law_897 : decode cL_law 897 = .ok (.invokevirtual 130, 3) := by decide +kernel
theorem dL_law_900 : decode cL_law 900 = .ok (.aload_n 2, 1) := by decide +kernel
theorem dL_law_901 : decode cL_law 901 = .ok (.invokevirtual 133, 3) := by decide +kernel
theorem dL_law_904 : decode cL_law 904 = .ok (.if_icmp .eq 31, 3) := by decide +kernel
theorem dL_law_907 : decode cL_law 907 = .ok (.iconst 0, 1) := by decide +kernel
theorem dL_law_908 : decode cL_law 908 = .ok (.ireturn, 1) := by decide +kernel
theorem dL_law_909 : decode cL_law 909 = .ok (.aload_n 1, 1) := by decide +kernel
theorem dL_law_910 : decode cL_law 910 = .ok (.invokevirtual 134, 3) := by decide +kernel
theorem dL_law_913 : decode cL_law 913 = .ok (.aload_n 2, 1) := by decide +kernel
theorem dL_law_914 : decode cL_law 914 = .ok (.invokevirtual 137, 3) := by decide +kernel
theorem dL_law_917 : decode cL_law 917 = .ok (.if_icmp .eq 18, 3) := by decide +kernel
theorem dL_law_920 : decode cL_law 920 = .ok (.iconst 0, 1) := by decide +kernel
theorem dL_law_921 : decode cL_law 921 = .ok (.ireturn, 1) := by decide +kernel
theorem dL_law_922 : decode cL_law 922 = .ok (.aload_n 1, 1) := by decide +kernel
theorem dL_law_923 : decode cL_law 923 = .ok (.invokevirtual 138, 3) := by decide +kernel
theorem dL_law_926 : decode cL_law 926 = .ok (.aload_n 2, 1) := by decide +kernel
theorem dL_law_927 : decode cL_law 927 = .ok (.invokevirtual 141, 3) := by decide +kernel
theorem dL_law_930 : decode cL_law 930 = .ok (.if_icmp .eq 5, 3) := by decide +kernel
theorem dL_law_933 : decode cL_law 933 = .ok (.iconst 0, 1) := by decide +kernel
theorem dL_law_934 : decode cL_law 934 = .ok (.ireturn, 1) := by decide +kernel
theorem dL_law_935 : decode cL_law 935 = .ok (.iinc 3 5, 3) := by decide +kernel
theorem dL_law_938 : decode cL_law 938 = .ok (.goto (-920), 3) := by decide +kernel
theorem dL_law_941 : decode cL_law 941 = .ok (.iconst 1, 1) := by decide +kernel
theorem dL_law_942 : decode cL_law 942 = .ok (.ireturn, 1) := by decide +kernel

theorem dX6_undo_13 : decode cX6_undo 13 = .ok (.aload_n 0, 1) := by decide +kernel
theorem dX6_undo_14 : decode cX6_undo 14 = .ok (.getfield 19, 3) := by decide +kernel
theorem dX6_undo_17 : decode cX6_undo 17 = .ok (.aload_n 0, 1) := by decide +kernel
theorem dX6_undo_18 : decode cX6_undo 18 = .ok (.getfield 10, 3) := by decide +kernel
theorem dX6_undo_21 : decode cX6_undo 21 = .ok (.invokevirtual 225, 3) := by decide +kernel
theorem dX6_undo_24 : decode cX6_undo 24 = .ok (.aload_n 0, 1) := by decide +kernel
theorem dX6_undo_25 : decode cX6_undo 25 = .ok (.getfield 19, 3) := by decide +kernel
theorem dX6_undo_28 : decode cX6_undo 28 = .ok (.getfield 222, 3) := by decide +kernel
theorem dX6_undo_31 : decode cX6_undo 31 = .ok (.ireturn, 1) := by decide +kernel
theorem dX6_save_0 : decode cX6_save 0 = .ok (.iload_n 1, 1) := by decide +kernel
theorem dX6_save_1 : decode cX6_save 1 = .ok (.iconst 0, 1) := by decide +kernel
theorem dX6_save_2 : decode cX6_save 2 = .ok (.iconst 1, 1) := by decide +kernel
theorem dX6_save_3 : decode cX6_save 3 = .ok (.invokestatic 38, 3) := by decide +kernel
theorem dX6_save_6 : decode cX6_save 6 = .ok (.ifCond .ne 5, 3) := by decide +kernel
theorem dX6_save_9 : decode cX6_save 9 = .ok (.iconst (-1), 1) := by decide +kernel
theorem dX6_save_10 : decode cX6_save 10 = .ok (.ireturn, 1) := by decide +kernel
theorem dX6_save_11 : decode cX6_save 11 = .ok (.aload_n 0, 1) := by decide +kernel
theorem dX6_save_12 : decode cX6_save 12 = .ok (.getfield 23, 3) := by decide +kernel
theorem dX6_save_15 : decode cX6_save 15 = .ok (.iload_n 1, 1) := by decide +kernel
theorem dX6_save_16 : decode cX6_save 16 = .ok (.aaload, 1) := by decide +kernel
theorem dX6_save_17 : decode cX6_save 17 = .ok (.aload_n 0, 1) := by decide +kernel
theorem dX6_save_18 : decode cX6_save 18 = .ok (.getfield 10, 3) := by decide +kernel
theorem dX6_save_21 : decode cX6_save 21 = .ok (.invokevirtual 228, 3) := by decide +kernel
theorem dX6_save_24 : decode cX6_save 24 = .ok (.aload_n 0, 1) := by decide +kernel
theorem dX6_save_25 : decode cX6_save 25 = .ok (.getfield 27, 3) := by decide +kernel
theorem dX6_save_28 : decode cX6_save 28 = .ok (.iload_n 1, 1) := by decide +kernel
theorem dX6_save_29 : decode cX6_save 29 = .ok (.iconst 1, 1) := by decide +kernel
theorem dX6_save_30 : decode cX6_save 30 = .ok (.bastore, 1) := by decide +kernel
theorem dX6_save_31 : decode cX6_save 31 = .ok (.aload_n 0, 1) := by decide +kernel
theorem dX6_save_32 : decode cX6_save 32 = .ok (.getfield 10, 3) := by decide +kernel
theorem dX6_save_35 : decode cX6_save 35 = .ok (.getfield 96, 3) := by decide +kernel
theorem dX6_save_38 : decode cX6_save 38 = .ok (.ireturn, 1) := by decide +kernel
theorem dX6_restore_0 : decode cX6_restore 0 = .ok (.iload_n 1, 1) := by decide +kernel
theorem dX6_restore_1 : decode cX6_restore 1 = .ok (.iconst 0, 1) := by decide +kernel
theorem dX6_restore_2 : decode cX6_restore 2 = .ok (.iconst 1, 1) := by decide +kernel
theorem dX6_restore_3 : decode cX6_restore 3 = .ok (.invokestatic 38, 3) := by decide +kernel
theorem dX6_restore_6 : decode cX6_restore 6 = .ok (.ifCond .ne 5, 3) := by decide +kernel
theorem dX6_restore_9 : decode cX6_restore 9 = .ok (.iconst (-1), 1) := by decide +kernel
theorem dX6_restore_10 : decode cX6_restore 10 = .ok (.ireturn, 1) := by decide +kernel
theorem dX6_restore_11 : decode cX6_restore 11 = .ok (.aload_n 0, 1) := by decide +kernel
theorem dX6_restore_12 : decode cX6_restore 12 = .ok (.getfield 27, 3) := by decide +kernel
theorem dX6_restore_15 : decode cX6_restore 15 = .ok (.iload_n 1, 1) := by decide +kernel
theorem dX6_restore_16 : decode cX6_restore 16 = .ok (.baload, 1) := by decide +kernel
theorem dX6_restore_17 : decode cX6_restore 17 = .ok (.ifCond .ne 6, 3) := by decide +kernel
theorem dX6_restore_20 : decode cX6_restore 20 = .ok (.bipush (-2), 2) := by decide +kernel
theorem dX6_restore_22 : decode cX6_restore 22 = .ok (.ireturn, 1) := by decide +kernel
theorem dX6_restore_23 : decode cX6_restore 23 = .ok (.aload_n 0, 1) := by decide +kernel
theorem dX6_restore_24 : decode cX6_restore 24 = .ok (.getfield 10, 3) := by decide +kernel
theorem dX6_restore_27 : decode cX6_restore 27 = .ok (.aload_n 0, 1) := by decide +kernel
theorem dX6_restore_28 : decode cX6_restore 28 = .ok (.getfield 23, 3) := by decide +kernel
theorem dX6_restore_31 : decode cX6_restore 31 = .ok (.iload_n 1, 1) := by decide +kernel
theorem dX6_restore_32 : decode cX6_restore 32 = .ok (.aaload, 1) := by decide +kernel
theorem dX6_restore_33 : decode cX6_restore 33 = .ok (.invokevirtual 228, 3) := by decide +kernel
theorem dX6_restore_36 : decode cX6_restore 36 = .ok (.aload_n 0, 1) := by decide +kernel
theorem dX6_restore_37 : decode cX6_restore 37 = .ok (.getfield 19, 3) := by decide +kernel
theorem dX6_restore_40 : decode cX6_restore 40 = .ok (.invokevirtual 231, 3) := by decide +kernel
theorem dX6_restore_43 : decode cX6_restore 43 = .ok (.aload_n 0, 1) := by decide +kernel
theorem dX6_restore_44 : decode cX6_restore 44 = .ok (.getfield 10, 3) := by decide +kernel
theorem dX6_restore_47 : decode cX6_restore 47 = .ok (.getfield 96, 3) := by decide +kernel
theorem dX6_restore_50 : decode cX6_restore 50 = .ok (.ireturn, 1) := by decide +kernel
theorem dX6_isBetween_0 : decode cX6_isBetween 0 = .ok (.iload_n 1, 1) := by decide +kernel
theorem dX6_isBetween_1 : decode cX6_isBetween 1 = .ok (.iload_n 0, 1) := by decide +kernel
theorem dX6_isBetween_2 : decode cX6_isBetween 2 = .ok (.if_icmp .gt 12, 3) := by decide +kernel
theorem dX6_isBetween_5 : decode cX6_isBetween 5 = .ok (.iload_n 0, 1) := by decide +kernel
theorem dX6_isBetween_6 : decode cX6_isBetween 6 = .ok (.iload_n 2, 1) := by decide +kernel
theorem dX6_isBetween_7 : decode cX6_isBetween 7 = .ok (.if_icmp .gt 7, 3) := by decide +kernel
theorem dX6_isBetween_10 : decode cX6_isBetween 10 = .ok (.iconst 1, 1) := by decide +kernel
theorem dX6_isBetween_11 : decode cX6_isBetween 11 = .ok (.goto 4, 3) := by decide +kernel
theorem dX6_isBetween_14 : decode cX6_isBetween 14 = .ok (.iconst 0, 1) := by decide +kernel
theorem dX6_isBetween_15 : decode cX6_isBetween 15 = .ok (.ireturn, 1) := by decide +kernel
theorem dX6_remainder_0 : decode cX6_remainder 0 = .ok (.iload_n 1, 1) := by decide +kernel
theorem dX6_remainder_1 : decode cX6_remainder 1 = .ok (.iconst 1, 1) := by decide +kernel
theorem dX6_remainder_2 : decode cX6_remainder 2 = .ok (.if_icmp .ge 7, 3) := by decide +kernel
theorem dX6_remainder_5 : decode cX6_remainder 5 = .ok (.iconst 0, 1) := by decide +kernel
theorem dX6_remainder_6 : decode cX6_remainder 6 = .ok (.goto 6, 3) := by decide +kernel
theorem dX6_remainder_9 : decode cX6_remainder 9 = .ok (.iload_n 0, 1) := by decide +kernel
theorem dX6_remainder_10 : decode cX6_remainder 10 = .ok (.iload_n 1, 1) := by decide +kernel
theorem dX6_remainder_11 : decode cX6_remainder 11 = .ok (.irem, 1) := by decide +kernel
theorem dX6_remainder_12 : decode cX6_remainder 12 = .ok (.ireturn, 1) := by decide +kernel
theorem dX6_isFlow_0 : decode cX6_isFlow 0 = .ok (.iload_n 0, 1) := by decide +kernel
theorem dX6_isFlow_1 : decode cX6_isFlow 1 = .ok (.iconst 0, 1) := by decide +kernel
theorem dX6_isFlow_2 : decode cX6_isFlow 2 = .ok (.bipush 15, 2) := by decide +kernel
theorem dX6_isFlow_4 : decode cX6_isFlow 4 = .ok (.invokestatic 38, 3) := by decide +kernel
theorem dX6_isFlow_7 : decode cX6_isFlow 7 = .ok (.ireturn, 1) := by decide +kernel
theorem dX6_isSize_0 : decode cX6_isSize 0 = .ok (.iload_n 0, 1) := by decide +kernel
theorem dX6_isSize_1 : decode cX6_isSize 1 = .ok (.iconst 1, 1) := by decide +kernel
theorem dX6_isSize_2 : decode cX6_isSize 2 = .ok (.sipush 1000, 3) := by decide +kernel
theorem dX6_isSize_5 : decode cX6_isSize 5 = .ok (.invokestatic 38, 3) := by decide +kernel
theorem dX6_isSize_8 : decode cX6_isSize 8 = .ok (.ireturn, 1) := by decide +kernel
theorem dX6_runItem_0 : decode cX6_runItem 0 = .ok (.aload_n 0, 1) := by decide +kernel
theorem dX6_runItem_1 : decode cX6_runItem 1 = .ok (.getfield 34, 3) := by decide +kernel
theorem dX6_runItem_4 : decode cX6_runItem 4 = .ok (.getfield 234, 3) := by decide +kernel
theorem dX6_runItem_7 : decode cX6_runItem 7 = .ok (.ifCond .eq 64, 3) := by decide +kernel
theorem dX6_runItem_10 : decode cX6_runItem 10 = .ok (.aload_n 0, 1) := by decide +kernel
theorem dX6_runItem_11 : decode cX6_runItem 11 = .ok (.getfield 34, 3) := by decide +kernel
theorem dX6_runItem_14 : decode cX6_runItem 14 = .ok (.getfield 237, 3) := by decide +kernel
theorem dX6_runItem_17 : decode cX6_runItem 17 = .ok (.invokestatic 99, 3) := by decide +kernel
theorem dX6_runItem_20 : decode cX6_runItem 20 = .ok (.ifCond .eq 20, 3) := by decide +kernel
theorem dX6_runItem_23 : decode cX6_runItem 23 = .ok (.aload_n 0, 1) := by decide +kernel
theorem dX6_runItem_24 : decode cX6_runItem 24 = .ok (.getfield 34, 3) := by decide +kernel
theorem dX6_runItem_27 : decode cX6_runItem 27 = .ok (.getfield 240, 3) := by decide +kernel
theorem dX6_runItem_30 : decode cX6_runItem 30 = .ok (.invokestatic 102, 3) := by decide +kernel
theorem dX6_runItem_33 : decode cX6_runItem 33 = .ok (.ifCond .eq 7, 3) := by decide +kernel
theorem dX6_runItem_36 : decode cX6_runItem 36 = .ok (.iconst 1, 1) := by decide +kernel
theorem dX6_runItem_37 : decode cX6_runItem 37 = .ok (.goto 4, 3) := by decide +kernel
theorem dX6_runItem_40 : decode cX6_runItem 40 = .ok (.iconst 0, 1) := by decide +kernel
theorem dX6_runItem_41 : decode cX6_runItem 41 = .ok (.istore_n 1, 1) := by decide +kernel
theorem dX6_runItem_42 : decode cX6_runItem 42 = .ok (.iload_n 1, 1) := by decide +kernel
theorem dX6_runItem_43 : decode cX6_runItem 43 = .ok (.ifCond .eq 86, 3) := by decide +kernel
theorem dX6_runItem_46 : decode cX6_runItem 46 = .ok (.aload_n 0, 1) := by decide +kernel
theorem dX6_runItem_47 : decode cX6_runItem 47 = .ok (.getfield 10, 3) := by decide +kernel
theorem dX6_runItem_50 : decode cX6_runItem 50 = .ok (.aload_n 0, 1) := by decide +kernel
theorem dX6_runItem_51 : decode cX6_runItem 51 = .ok (.getfield 34, 3) := by decide +kernel
theorem dX6_runItem_54 : decode cX6_runItem 54 = .ok (.getfield 237, 3) := by decide +kernel
theorem dX6_runItem_57 : decode cX6_runItem 57 = .ok (.aload_n 0, 1) := by decide +kernel
theorem dX6_runItem_58 : decode cX6_runItem 58 = .ok (.getfield 34, 3) := by decide +kernel
theorem dX6_runItem_61 : decode cX6_runItem 61 = .ok (.getfield 240, 3) := by decide +kernel
theorem dX6_runItem_64 : decode cX6_runItem 64 = .ok (.invokevirtual 105, 3) := by decide +kernel
theorem dX6_runItem_67 : decode cX6_runItem 67 = .ok (.pop, 1) := by decide +kernel
theorem dX6_runItem_68 : decode cX6_runItem 68 = .ok (.goto 61, 3) := by decide +kernel
theorem dX6_runItem_71 : decode cX6_runItem 71 = .ok (.aload_n 0, 1) := by decide +kernel
theorem dX6_runItem_72 : decode cX6_runItem 72 = .ok (.getfield 34, 3) := by decide +kernel
theorem dX6_runItem_75 : decode cX6_runItem 75 = .ok (.getfield 240, 3) := by decide +kernel
theorem dX6_runItem_78 : decode cX6_runItem 78 = .ok (.iconst 1, 1) := by decide +kernel
theorem dX6_runItem_79 : decode cX6_runItem 79 = .ok (.sipush 1000, 3) := by decide +kernel
theorem dX6_runItem_82 : decode cX6_runItem 82 = .ok (.invokestatic 38, 3) := by decide +kernel
theorem dX6_runItem_85 : decode cX6_runItem 85 = .ok (.ifCond .eq 24, 3) := by decide +kernel
theorem dX6_runItem_88 : decode cX6_runItem 88 = .ok (.aload_n 0, 1) := by decide +kernel
theorem dX6_runItem_89 : decode cX6_runItem 89 = .ok (.getfield 10, 3) := by decide +kernel
theorem dX6_runItem_92 : decode cX6_runItem 92 = .ok (.aload_n 0, 1) := by decide +kernel
theorem dX6_runItem_93 : decode cX6_runItem 93 = .ok (.getfield 34, 3) := by decide +kernel
theorem dX6_runItem_96 : decode cX6_runItem 96 = .ok (.getfield 240, 3) := by decide +kernel
theorem dX6_runItem_99 : decode cX6_runItem 99 = .ok (.invokevirtual 89, 3) := by decide +kernel
theorem dX6_runItem_102 : decode cX6_runItem 102 = .ok (.ifCond .eq 7, 3) := by decide +kernel
theorem dX6_runItem_105 : decode cX6_runItem 105 = .ok (.iconst 1, 1) := by decide +kernel
theorem dX6_runItem_106 : decode cX6_runItem 106 = .ok (.goto 4, 3) := by decide +kernel
theorem dX6_runItem_109 : decode cX6_runItem 109 = .ok (.iconst 0, 1) := by decide +kernel
theorem dX6_runItem_110 : decode cX6_runItem 110 = .ok (.istore_n 1, 1) := by decide +kernel
theorem dX6_runItem_111 : decode cX6_runItem 111 = .ok (.iload_n 1, 1) := by decide +kernel
theorem dX6_runItem_112 : decode cX6_runItem 112 = .ok (.ifCond .eq 17, 3) := by decide +kernel
theorem dX6_runItem_115 : decode cX6_runItem 115 = .ok (.aload_n 0, 1) := by decide +kernel
theorem dX6_runItem_116 : decode cX6_runItem 116 = .ok (.getfield 10, 3) := by decide +kernel
theorem dX6_runItem_119 : decode cX6_runItem 119 = .ok (.aload_n 0, 1) := by decide +kernel
theorem dX6_runItem_120 : decode cX6_runItem 120 = .ok (.getfield 34, 3) := by decide +kernel
theorem dX6_runItem_123 : decode cX6_runItem 123 = .ok (.getfield 240, 3) := by decide +kernel
theorem dX6_runItem_126 : decode cX6_runItem 126 = .ok (.invokevirtual 92, 3) := by decide +kernel
theorem dX6_runItem_129 : decode cX6_runItem 129 = .ok (.iload_n 1, 1) := by decide +kernel
theorem dX6_runItem_130 : decode cX6_runItem 130 = .ok (.ireturn, 1) := by decide +kernel
theorem dX7_init_0 : decode cX7_init 0 = .ok (.aload_n 0, 1) := by decide +kernel
theorem dX7_init_1 : decode cX7_init 1 = .ok (.invokespecial 1, 3) := by decide +kernel
theorem dX7_init_4 : decode cX7_init 4 = .ok (.aload_n 0, 1) := by decide +kernel
theorem dX7_init_5 : decode cX7_init 5 = .ok (.sipush 153, 3) := by decide +kernel
theorem dX7_init_8 : decode cX7_init 8 = .ok (.newarray .int, 2) := by decide +kernel
theorem dX7_init_10 : decode cX7_init 10 = .ok (.putfield 7, 3) := by decide +kernel
theorem dX7_init_13 : decode cX7_init 13 = .ok (.aload_n 0, 1) := by decide +kernel
theorem dX7_init_14 : decode cX7_init 14 = .ok (.sipush 1224, 3) := by decide +kernel
theorem dX7_init_17 : decode cX7_init 17 = .ok (.newarray .int, 2) := by decide +kernel
theorem dX7_init_19 : decode cX7_init 19 = .ok (.putfield 13, 3) := by decide +kernel
theorem dX7_init_22 : decode cX7_init 22 = .ok (.aload_n 0, 1) := by decide +kernel
theorem dX7_init_23 : decode cX7_init 23 = .ok (.sipush 306, 3) := by decide +kernel
theorem dX7_init_26 : decode cX7_init 26 = .ok (.newarray .int, 2) := by decide +kernel
theorem dX7_init_28 : decode cX7_init 28 = .ok (.putfield 16, 3) := by decide +kernel
theorem dX7_init_31 : decode cX7_init 31 = .ok (.aload_n 0, 1) := by decide +kernel
theorem dX7_init_32 : decode cX7_init 32 = .ok (.iconst 2, 1) := by decide +kernel
theorem dX7_init_33 : decode cX7_init 33 = .ok (.newarray .boolean, 2) := by decide +kernel
theorem dX7_init_35 : decode cX7_init 35 = .ok (.putfield 19, 3) := by decide +kernel
theorem dX7_init_38 : decode cX7_init 38 = .ok (.aload_n 0, 1) := by decide +kernel
theorem dX7_init_39 : decode cX7_init 39 = .ok (.bipush 120, 2) := by decide +kernel
theorem dX7_init_41 : decode cX7_init 41 = .ok (.newarray .int, 2) := by decide +kernel
theorem dX7_init_43 : decode cX7_init 43 = .ok (.putfield 23, 3) := by decide +kernel
theorem dX7_init_46 : decode cX7_init 46 = .ok (.aload_n 0, 1) := by decide +kernel
theorem dX7_init_47 : decode cX7_init 47 = .ok (.bipush 60, 2) := by decide +kernel
theorem dX7_init_49 : decode cX7_init 49 = .ok (.newarray .int, 2) := by decide +kernel
theorem dX7_init_51 : decode cX7_init 51 = .ok (.putfield 26, 3) := by decide +kernel
theorem dX7_init_54 : decode cX7_init 54 = .ok (.aload_n 0, 1) := by decide +kernel
theorem dX7_init_55 : decode cX7_init 55 = .ok (.bipush 60, 2) := by decide +kernel
theorem dX7_init_57 : decode cX7_init 57 = .ok (.newarray .int, 2) := by decide +kernel
theorem dX7_init_59 : decode cX7_init 59 = .ok (.putfield 29, 3) := by decide +kernel
theorem dX7_init_62 : decode cX7_init 62 = .ok (.aload_n 0, 1) := by decide +kernel
theorem dX7_init_63 : decode cX7_init 63 = .ok (.iconst 4, 1) := by decide +kernel
theorem dX7_init_64 : decode cX7_init 64 = .ok (.bipush 8, 2) := by decide +kernel
theorem dX7_init_66 : decode cX7_init 66 = .ok (.invokevirtual 32, 3) := by decide +kernel
theorem dX7_init_69 : decode cX7_init 69 = .ok (.return_, 1) := by decide +kernel
theorem dX7_in_0 : decode cX7_in 0 = .ok (.iload_n 0, 1) := by decide +kernel
theorem dX7_in_1 : decode cX7_in 1 = .ok (.iload_n 1, 1) := by decide +kernel
theorem dX7_in_2 : decode cX7_in 2 = .ok (.if_icmp .lt 12, 3) := by decide +kernel
theorem dX7_in_5 : decode cX7_in 5 = .ok (.iload_n 0, 1) := by decide +kernel
theorem dX7_in_6 : decode cX7_in 6 = .ok (.iload_n 2, 1) := by decide +kernel
theorem dX7_in_7 : decode cX7_in 7 = .ok (.if_icmp .gt 7, 3) := by decide +kernel
theorem dX7_in_10 : decode cX7_in 10 = .ok (.iconst 1, 1) := by decide +kernel
theorem dX7_in_11 : decode cX7_in 11 = .ok (.goto 4, 3) := by decide +kernel
theorem dX7_in_14 : decode cX7_in 14 = .ok (.iconst 0, 1) := by decide +kernel
theorem dX7_in_15 : decode cX7_in 15 = .ok (.ireturn, 1) := by decide +kernel
theorem dX7_isPath_0 : decode cX7_isPath 0 = .ok (.iload_n 1, 1) := by decide +kernel
theorem dX7_isPath_1 : decode cX7_isPath 1 = .ok (.iconst 0, 1) := by decide +kernel
theorem dX7_isPath_2 : decode cX7_isPath 2 = .ok (.aload_n 0, 1) := by decide +kernel
theorem dX7_isPath_3 : decode cX7_isPath 3 = .ok (.getfield 7, 3) := by decide +kernel
theorem dX7_isPath_6 : decode cX7_isPath 6 = .ok (.iconst 1, 1) := by decide +kernel
theorem dX7_isPath_7 : decode cX7_isPath 7 = .ok (.iaload, 1) := by decide +kernel
theorem dX7_isPath_8 : decode cX7_isPath 8 = .ok (.iconst 1, 1) := by decide +kernel
theorem dX7_isPath_9 : decode cX7_isPath 9 = .ok (.isub, 1) := by decide +kernel
theorem dX7_isPath_10 : decode cX7_isPath 10 = .ok (.invokestatic 36, 3) := by decide +kernel
theorem dX7_isPath_13 : decode cX7_isPath 13 = .ok (.ireturn, 1) := by decide +kernel
theorem dX7_isEntry_0 : decode cX7_isEntry 0 = .ok (.iload_n 1, 1) := by decide +kernel
theorem dX7_isEntry_1 : decode cX7_isEntry 1 = .ok (.iconst 0, 1) := by decide +kernel
theorem dX7_isEntry_2 : decode cX7_isEntry 2 = .ok (.aload_n 0, 1) := by decide +kernel
theorem dX7_isEntry_3 : decode cX7_isEntry 3 = .ok (.getfield 7, 3) := by decide +kernel
theorem dX7_isEntry_6 : decode cX7_isEntry 6 = .ok (.iconst 2, 1) := by decide +kernel
theorem dX7_isEntry_7 : decode cX7_isEntry 7 = .ok (.iaload, 1) := by decide +kernel
theorem dX7_isEntry_8 : decode cX7_isEntry 8 = .ok (.iconst 1, 1) := by decide +kernel
theorem dX7_isEntry_9 : decode cX7_isEntry 9 = .ok (.isub, 1) := by decide +kernel
theorem dX7_isEntry_10 : decode cX7_isEntry 10 = .ok (.invokestatic 36, 3) := by decide +kernel
theorem dX7_isEntry_13 : decode cX7_isEntry 13 = .ok (.ireturn, 1) := by decide +kernel
theorem dX7_isFlow_0 : decode cX7_isFlow 0 = .ok (.iload_n 0, 1) := by decide +kernel
theorem dX7_isFlow_1 : decode cX7_isFlow 1 = .ok (.iconst 0, 1) := by decide +kernel
theorem dX7_isFlow_2 : decode cX7_isFlow 2 = .ok (.bipush 15, 2) := by decide +kernel
theorem dX7_isFlow_4 : decode cX7_isFlow 4 = .ok (.invokestatic 36, 3) := by decide +kernel
theorem dX7_isFlow_7 : decode cX7_isFlow 7 = .ok (.ireturn, 1) := by decide +kernel
theorem dX7_isSize_0 : decode cX7_isSize 0 = .ok (.iload_n 0, 1) := by decide +kernel
theorem dX7_isSize_1 : decode cX7_isSize 1 = .ok (.iconst 1, 1) := by decide +kernel
theorem dX7_isSize_2 : decode cX7_isSize 2 = .ok (.sipush 1000, 3) := by decide +kernel
theorem dX7_isSize_5 : decode cX7_isSize 5 = .ok (.invokestatic 36, 3) := by decide +kernel
theorem dX7_isSize_8 : decode cX7_isSize 8 = .ok (.ireturn, 1) := by decide +kernel
theorem dX7_makeNew_0 : decode cX7_makeNew 0 = .ok (.iconst 0, 1) := by decide +kernel
theorem dX7_makeNew_1 : decode cX7_makeNew 1 = .ok (.istore_n 3, 1) := by decide +kernel
theorem dX7_makeNew_2 : decode cX7_makeNew 2 = .ok (.iload_n 3, 1) := by decide +kernel
theorem dX7_makeNew_3 : decode cX7_makeNew 3 = .ok (.sipush 153, 3) := by decide +kernel
theorem dX7_makeNew_6 : decode cX7_makeNew 6 = .ok (.if_icmp .ge 16, 3) := by decide +kernel
theorem dX7_makeNew_9 : decode cX7_makeNew 9 = .ok (.aload_n 0, 1) := by decide +kernel
theorem dX7_makeNew_10 : decode cX7_makeNew 10 = .ok (.getfield 7, 3) := by decide +kernel
theorem dX7_makeNew_13 : decode cX7_makeNew 13 = .ok (.iload_n 3, 1) := by decide +kernel
theorem dX7_makeNew_14 : decode cX7_makeNew 14 = .ok (.iconst 0, 1) := by decide +kernel
theorem dX7_makeNew_15 : decode cX7_makeNew 15 = .ok (.iastore, 1) := by decide +kernel
theorem dX7_makeNew_16 : decode cX7_makeNew 16 = .ok (.iinc 3 1, 3) := by decide +kernel
theorem dX7_makeNew_19 : decode cX7_makeNew 19 = .ok (.goto (-17), 3) := by decide +kernel
theorem dX7_makeNew_22 : decode cX7_makeNew 22 = .ok (.aload_n 0, 1) := by decide +kernel
theorem dX7_makeNew_23 : decode cX7_makeNew 23 = .ok (.getfield 7, 3) := by decide +kernel
theorem dX7_makeNew_26 : decode cX7_makeNew 26 = .ok (.iconst 1, 1) := by decide +kernel
theorem dX7_makeNew_27 : decode cX7_makeNew 27 = .ok (.iload_n 1, 1) := by decide +kernel
theorem dX7_makeNew_28 : decode cX7_makeNew 28 = .ok (.iastore, 1) := by decide +kernel
theorem dX7_makeNew_29 : decode cX7_makeNew 29 = .ok (.aload_n 0, 1) := by decide +kernel
theorem dX7_makeNew_30 : decode cX7_makeNew 30 = .ok (.getfield 7, 3) := by decide +kernel
theorem dX7_makeNew_33 : decode cX7_makeNew 33 = .ok (.iconst 2, 1) := by decide +kernel
theorem dX7_makeNew_34 : decode cX7_makeNew 34 = .ok (.iload_n 2, 1) := by decide +kernel
theorem dX7_makeNew_35 : decode cX7_makeNew 35 = .ok (.iastore, 1) := by decide +kernel
theorem dX7_makeNew_36 : decode cX7_makeNew 36 = .ok (.aload_n 0, 1) := by decide +kernel
theorem dX7_makeNew_37 : decode cX7_makeNew 37 = .ok (.getfield 7, 3) := by decide +kernel
theorem dX7_makeNew_40 : decode cX7_makeNew 40 = .ok (.iconst 3, 1) := by decide +kernel
theorem dX7_makeNew_41 : decode cX7_makeNew 41 = .ok (.bipush 20, 2) := by decide +kernel
theorem dX7_makeNew_43 : decode cX7_makeNew 43 = .ok (.iastore, 1) := by decide +kernel
theorem dX7_makeNew_44 : decode cX7_makeNew 44 = .ok (.aload_n 0, 1) := by decide +kernel
theorem dX7_makeNew_45 : decode cX7_makeNew 45 = .ok (.getfield 7, 3) := by decide +kernel
theorem dX7_makeNew_48 : decode cX7_makeNew 48 = .ok (.iconst 5, 1) := by decide +kernel
theorem dX7_makeNew_49 : decode cX7_makeNew 49 = .ok (.iconst 1, 1) := by decide +kernel
theorem dX7_makeNew_50 : decode cX7_makeNew 50 = .ok (.iastore, 1) := by decide +kernel
theorem dX7_makeNew_51 : decode cX7_makeNew 51 = .ok (.aload_n 0, 1) := by decide +kernel
theorem dX7_makeNew_52 : decode cX7_makeNew 52 = .ok (.getfield 7, 3) := by decide +kernel
theorem dX7_makeNew_55 : decode cX7_makeNew 55 = .ok (.bipush 6, 2) := by decide +kernel
theorem dX7_makeNew_57 : decode cX7_makeNew 57 = .ok (.iconst 2, 1) := by decide +kernel
theorem dX7_makeNew_58 : decode cX7_makeNew 58 = .ok (.iastore, 1) := by decide +kernel
theorem dX7_makeNew_59 : decode cX7_makeNew 59 = .ok (.aload_n 0, 1) := by decide +kernel
theorem dX7_makeNew_60 : decode cX7_makeNew 60 = .ok (.getfield 7, 3) := by decide +kernel
theorem dX7_makeNew_63 : decode cX7_makeNew 63 = .ok (.bipush 7, 2) := by decide +kernel
theorem dX7_makeNew_65 : decode cX7_makeNew 65 = .ok (.iconst 1, 1) := by decide +kernel
theorem dX7_makeNew_66 : decode cX7_makeNew 66 = .ok (.iastore, 1) := by decide +kernel
theorem dX7_makeNew_67 : decode cX7_makeNew 67 = .ok (.iconst 0, 1) := by decide +kernel
theorem dX7_makeNew_68 : decode cX7_makeNew 68 = .ok (.istore_n 3, 1) := by decide +kernel
theorem dX7_makeNew_69 : decode cX7_makeNew 69 = .ok (.iload_n 3, 1) := by decide +kernel
theorem dX7_makeNew_70 : decode cX7_makeNew 70 = .ok (.iconst 4, 1) := by decide +kernel
theorem dX7_makeNew_71 : decode cX7_makeNew 71 = .ok (.if_icmp .ge 31, 3) := by decide +kernel
theorem dX7_makeNew_74 : decode cX7_makeNew 74 = .ok (.aload_n 0, 1) := by decide +kernel
theorem dX7_makeNew_75 : decode cX7_makeNew 75 = .ok (.getfield 7, 3) := by decide +kernel
theorem dX7_makeNew_78 : decode cX7_makeNew 78 = .ok (.bipush 9, 2) := by decide +kernel
theorem dX7_makeNew_80 : decode cX7_makeNew 80 = .ok (.iload_n 3, 1) := by decide +kernel
theorem dX7_makeNew_81 : decode cX7_makeNew 81 = .ok (.iadd, 1) := by decide +kernel
theorem dX7_makeNew_82 : decode cX7_makeNew 82 = .ok (.bipush 10, 2) := by decide +kernel
theorem dX7_makeNew_84 : decode cX7_makeNew 84 = .ok (.iastore, 1) := by decide +kernel
theorem dX7_makeNew_85 : decode cX7_makeNew 85 = .ok (.aload_n 0, 1) := by decide +kernel
theorem dX7_makeNew_86 : decode cX7_makeNew 86 = .ok (.getfield 7, 3) := by decide +kernel
theorem dX7_makeNew_89 : decode cX7_makeNew 89 = .ok (.bipush 13, 2) := by decide +kernel
theorem dX7_makeNew_91 : decode cX7_makeNew 91 = .ok (.iload_n 3, 1) := by decide +kernel
theorem dX7_makeNew_92 : decode cX7_makeNew 92 = .ok (.iadd, 1) := by decide +kernel
theorem dX7_makeNew_93 : decode cX7_makeNew 93 = .ok (.bipush 10, 2) := by decide +kernel
theorem dX7_makeNew_95 : decode cX7_makeNew 95 = .ok (.iastore, 1) := by decide +kernel
theorem dX7_makeNew_96 : decode cX7_makeNew 96 = .ok (.iinc 3 1, 3) := by decide +kernel
theorem dX7_makeNew_99 : decode cX7_makeNew 99 = .ok (.goto (-30), 3) := by decide +kernel
theorem dX7_makeNew_102 : decode cX7_makeNew 102 = .ok (.iconst 0, 1) := by decide +kernel
theorem dX7_makeNew_103 : decode cX7_makeNew 103 = .ok (.istore_n 3, 1) := by decide +kernel
theorem dX7_makeNew_104 : decode cX7_makeNew 104 = .ok (.iload_n 3, 1) := by decide +kernel
theorem dX7_makeNew_105 : decode cX7_makeNew 105 = .ok (.bipush 8, 2) := by decide +kernel
theorem dX7_makeNew_107 : decode cX7_makeNew 107 = .ok (.if_icmp .ge 20, 3) := by decide +kernel
theorem dX7_makeNew_110 : decode cX7_makeNew 110 = .ok (.aload_n 0, 1) := by decide +kernel
theorem dX7_makeNew_111 : decode cX7_makeNew 111 = .ok (.getfield 7, 3) := by decide +kernel
theorem dX7_makeNew_114 : decode cX7_makeNew 114 = .ok (.bipush 49, 2) := by decide +kernel
theorem dX7_makeNew_116 : decode cX7_makeNew 116 = .ok (.iload_n 3, 1) := by decide +kernel
theorem dX7_makeNew_117 : decode cX7_makeNew 117 = .ok (.iadd, 1) := by decide +kernel
theorem dX7_makeNew_118 : decode cX7_makeNew 118 = .ok (.bipush (-9), 2) := by decide +kernel
theorem dX7_makeNew_120 : decode cX7_makeNew 120 = .ok (.iastore, 1) := by decide +kernel
theorem dX7_makeNew_121 : decode cX7_makeNew 121 = .ok (.iinc 3 1, 3) := by decide +kernel
theorem dX7_makeNew_124 : decode cX7_makeNew 124 = .ok (.goto (-20), 3) := by decide +kernel
theorem dX7_makeNew_127 : decode cX7_makeNew 127 = .ok (.iconst 0, 1) := by decide +kernel
theorem dX7_makeNew_128 : decode cX7_makeNew 128 = .ok (.istore_n 3, 1) := by decide +kernel
theorem dX7_makeNew_129 : decode cX7_makeNew 129 = .ok (.iload_n 3, 1) := by decide +kernel
theorem dX7_makeNew_130 : decode cX7_makeNew 130 = .ok (.bipush 16, 2) := by decide +kernel
theorem dX7_makeNew_132 : decode cX7_makeNew 132 = .ok (.if_icmp .ge 32, 3) := by decide +kernel
theorem dX7_makeNew_135 : decode cX7_makeNew 135 = .ok (.aload_n 0, 1) := by decide +kernel
theorem dX7_makeNew_136 : decode cX7_makeNew 136 = .ok (.getfield 7, 3) := by decide +kernel
theorem dX7_makeNew_139 : decode cX7_makeNew 139 = .ok (.bipush 105, 2) := by decide +kernel
theorem dX7_makeNew_141 : decode cX7_makeNew 141 = .ok (.iload_n 3, 1) := by decide +kernel
theorem dX7_makeNew_142 : decode cX7_makeNew 142 = .ok (.iadd, 1) := by decide +kernel
theorem dX7_makeNew_143 : decode cX7_makeNew 143 = .ok (.bipush (-9), 2) := by decide +kernel
theorem dX7_makeNew_145 : decode cX7_makeNew 145 = .ok (.iastore, 1) := by decide +kernel
theorem dX7_makeNew_146 : decode cX7_makeNew 146 = .ok (.aload_n 0, 1) := by decide +kernel
theorem dX7_makeNew_147 : decode cX7_makeNew 147 = .ok (.getfield 7, 3) := by decide +kernel
theorem dX7_makeNew_150 : decode cX7_makeNew 150 = .ok (.sipush 137, 3) := by decide +kernel
theorem dX7_makeNew_153 : decode cX7_makeNew 153 = .ok (.iload_n 3, 1) := by decide +kernel
theorem dX7_makeNew_154 : decode cX7_makeNew 154 = .ok (.iadd, 1) := by decide +kernel
theorem dX7_makeNew_155 : decode cX7_makeNew 155 = .ok (.bipush (-9), 2) := by decide +kernel
theorem dX7_makeNew_157 : decode cX7_makeNew 157 = .ok (.iastore, 1) := by decide +kernel
theorem dX7_makeNew_158 : decode cX7_makeNew 158 = .ok (.iinc 3 1, 3) := by decide +kernel
theorem dX7_makeNew_161 : decode cX7_makeNew 161 = .ok (.goto (-32), 3) := by decide +kernel
theorem dX7_makeNew_164 : decode cX7_makeNew 164 = .ok (.return_, 1) := by decide +kernel
theorem dX7_keep_0 : decode cX7_keep 0 = .ok (.aload_n 0, 1) := by decide +kernel
theorem dX7_keep_1 : decode cX7_keep 1 = .ok (.getfield 40, 3) := by decide +kernel
theorem dX7_keep_4 : decode cX7_keep 4 = .ok (.bipush 8, 2) := by decide +kernel
theorem dX7_keep_6 : decode cX7_keep 6 = .ok (.if_icmp .ne 44, 3) := by decide +kernel
theorem dX7_keep_9 : decode cX7_keep 9 = .ok (.iconst 0, 1) := by decide +kernel
theorem dX7_keep_10 : decode cX7_keep 10 = .ok (.istore_n 1, 1) := by decide +kernel
theorem dX7_keep_11 : decode cX7_keep 11 = .ok (.iload_n 1, 1) := by decide +kernel
theorem dX7_keep_12 : decode cX7_keep 12 = .ok (.sipush 1071, 3) := by decide +kernel
theorem dX7_keep_15 : decode cX7_keep 15 = .ok (.if_icmp .ge 25, 3) := by decide +kernel
theorem dX7_keep_18 : decode cX7_keep 18 = .ok (.aload_n 0, 1) := by decide +kernel
theorem dX7_keep_19 : decode cX7_keep 19 = .ok (.getfield 13, 3) := by decide +kernel
theorem dX7_keep_22 : decode cX7_keep 22 = .ok (.iload_n 1, 1) := by decide +kernel
theorem dX7_keep_23 : decode cX7_keep 23 = .ok (.aload_n 0, 1) := by decide +kernel
theorem dX7_keep_24 : decode cX7_keep 24 = .ok (.getfield 13, 3) := by decide +kernel
theorem dX7_keep_27 : decode cX7_keep 27 = .ok (.iload_n 1, 1) := by decide +kernel
theorem dX7_keep_28 : decode cX7_keep 28 = .ok (.sipush 153, 3) := by decide +kernel
theorem dX7_keep_31 : decode cX7_keep 31 = .ok (.iadd, 1) := by decide +kernel
theorem dX7_keep_32 : decode cX7_keep 32 = .ok (.iaload, 1) := by decide +kernel
theorem dX7_keep_33 : decode cX7_keep 33 = .ok (.iastore, 1) := by decide +kernel
theorem dX7_keep_34 : decode cX7_keep 34 = .ok (.iinc 1 1, 3) := by decide +kernel
theorem dX7_keep_37 : decode cX7_keep 37 = .ok (.goto (-26), 3) := by decide +kernel
theorem dX7_keep_40 : decode cX7_keep 40 = .ok (.aload_n 0, 1) := by decide +kernel
theorem dX7_keep_41 : decode cX7_keep 41 = .ok (.dup, 1) := by decide +kernel
theorem dX7_keep_42 : decode cX7_keep 42 = .ok (.getfield 40, 3) := by decide +kernel
theorem dX7_keep_45 : decode cX7_keep 45 = .ok (.iconst 1, 1) := by decide +kernel
theorem dX7_keep_46 : decode cX7_keep 46 = .ok (.isub, 1) := by decide +kernel
theorem dX7_keep_47 : decode cX7_keep 47 = .ok (.putfield 40, 3) := by decide +kernel
theorem dX7_keep_50 : decode cX7_keep 50 = .ok (.iconst 0, 1) := by decide +kernel
theorem dX7_keep_51 : decode cX7_keep 51 = .ok (.istore_n 1, 1) := by decide +kernel
theorem dX7_keep_52 : decode cX7_keep 52 = .ok (.iload_n 1, 1) := by decide +kernel
theorem dX7_keep_53 : decode cX7_keep 53 = .ok (.sipush 153, 3) := by decide +kernel
theorem dX7_keep_56 : decode cX7_keep 56 = .ok (.if_icmp .ge 30, 3) := by decide +kernel
theorem dX7_keep_59 : decode cX7_keep 59 = .ok (.aload_n 0, 1) := by decide +kernel
theorem dX7_keep_60 : decode cX7_keep 60 = .ok (.getfield 13, 3) := by decide +kernel
theorem dX7_keep_63 : decode cX7_keep 63 = .ok (.sipush 153, 3) := by decide +kernel
theorem dX7_keep_66 : decode cX7_keep 66 = .ok (.aload_n 0, 1) := by decide +kernel
theorem dX7_keep_67 : decode cX7_keep 67 = .ok (.getfield 40, 3) := by decide +kernel
theorem dX7_keep_70 : decode cX7_keep 70 = .ok (.imul, 1) := by decide +kernel
theorem dX7_keep_71 : decode cX7_keep 71 = .ok (.iload_n 1, 1) := by decide +kernel
theorem dX7_keep_72 : decode cX7_keep 72 = .ok (.iadd, 1) := by decide +kernel
theorem dX7_keep_73 : decode cX7_keep 73 = .ok (.aload_n 0, 1) := by decide +kernel
theorem dX7_keep_74 : decode cX7_keep 74 = .ok (.getfield 7, 3) := by decide +kernel
theorem dX7_keep_77 : decode cX7_keep 77 = .ok (.iload_n 1, 1) := by decide +kernel
theorem dX7_keep_78 : decode cX7_keep 78 = .ok (.iaload, 1) := by decide +kernel
theorem dX7_keep_79 : decode cX7_keep 79 = .ok (.iastore, 1) := by decide +kernel
theorem dX7_keep_80 : decode cX7_keep 80 = .ok (.iinc 1 1, 3) := by decide +kernel
theorem dX7_keep_83 : decode cX7_keep 83 = .ok (.goto (-31), 3) := by decide +kernel
theorem dX7_keep_86 : decode cX7_keep 86 = .ok (.aload_n 0, 1) := by decide +kernel
theorem dX7_keep_87 : decode cX7_keep 87 = .ok (.dup, 1) := by decide +kernel
theorem dX7_keep_88 : decode cX7_keep 88 = .ok (.getfield 40, 3) := by decide +kernel
theorem dX7_keep_91 : decode cX7_keep 91 = .ok (.iconst 1, 1) := by decide +kernel
theorem dX7_keep_92 : decode cX7_keep 92 = .ok (.iadd, 1) := by decide +kernel
theorem dX7_keep_93 : decode cX7_keep 93 = .ok (.putfield 40, 3) := by decide +kernel
theorem dX7_keep_96 : decode cX7_keep 96 = .ok (.return_, 1) := by decide +kernel
theorem dX7_slotOf_0 : decode cX7_slotOf 0 = .ok (.bipush 7, 2) := by decide +kernel
theorem dX7_slotOf_2 : decode cX7_slotOf 2 = .ok (.iload_n 1, 1) := by decide +kernel
theorem dX7_slotOf_3 : decode cX7_slotOf 3 = .ok (.imul, 1) := by decide +kernel
theorem dX7_slotOf_4 : decode cX7_slotOf 4 = .ok (.iconst 3, 1) := by decide +kernel
theorem dX7_slotOf_5 : decode cX7_slotOf 5 = .ok (.iadd, 1) := by decide +kernel
theorem dX7_slotOf_6 : decode cX7_slotOf 6 = .ok (.aload_n 0, 1) := by decide +kernel
theorem dX7_slotOf_7 : decode cX7_slotOf 7 = .ok (.getfield 7, 3) := by decide +kernel
theorem dX7_slotOf_10 : decode cX7_slotOf 10 = .ok (.iconst 2, 1) := by decide +kernel
theorem dX7_slotOf_11 : decode cX7_slotOf 11 = .ok (.iaload, 1) := by decide +kernel
theorem dX7_slotOf_12 : decode cX7_slotOf 12 = .ok (.irem, 1) := by decide +kernel
theorem dX7_slotOf_13 : decode cX7_slotOf 13 = .ok (.ireturn, 1) := by decide +kernel
theorem dX7_configure_0 : decode cX7_configure 0 = .ok (.iload_n 1, 1) := by decide +kernel
theorem dX7_configure_1 : decode cX7_configure 1 = .ok (.iconst 2, 1) := by decide +kernel
theorem dX7_configure_2 : decode cX7_configure 2 = .ok (.iconst 4, 1) := by decide +kernel
theorem dX7_configure_3 : decode cX7_configure 3 = .ok (.invokestatic 36, 3) := by decide +kernel
theorem dX7_configure_6 : decode cX7_configure 6 = .ok (.ifCond .eq 13, 3) := by decide +kernel
theorem dX7_configure_9 : decode cX7_configure 9 = .ok (.iload_n 2, 1) := by decide +kernel
theorem dX7_configure_10 : decode cX7_configure 10 = .ok (.iconst 1, 1) := by decide +kernel
theorem dX7_configure_11 : decode cX7_configure 11 = .ok (.bipush 8, 2) := by decide +kernel
theorem dX7_configure_13 : decode cX7_configure 13 = .ok (.invokestatic 36, 3) := by decide +kernel
theorem dX7_configure_16 : decode cX7_configure 16 = .ok (.ifCond .ne 5, 3) := by decide +kernel
theorem dX7_configure_19 : decode cX7_configure 19 = .ok (.iconst (-1), 1) := by decide +kernel
theorem dX7_configure_20 : decode cX7_configure 20 = .ok (.ireturn, 1) := by decide +kernel
theorem dX7_configure_21 : decode cX7_configure 21 = .ok (.aload_n 0, 1) := by decide +kernel
theorem dX7_configure_22 : decode cX7_configure 22 = .ok (.invokevirtual 44, 3) := by decide +kernel
theorem dX7_configure_25 : decode cX7_configure 25 = .ok (.aload_n 0, 1) := by decide +kernel
theorem dX7_configure_26 : decode cX7_configure 26 = .ok (.iload_n 1, 1) := by decide +kernel
theorem dX7_configure_27 : decode cX7_configure 27 = .ok (.iload_n 2, 1) := by decide +kernel
theorem dX7_configure_28 : decode cX7_configure 28 = .ok (.invokevirtual 32, 3) := by decide +kernel
theorem dX7_configure_31 : decode cX7_configure 31 = .ok (.iconst 0, 1) := by decide +kernel
theorem dX7_configure_32 : decode cX7_configure 32 = .ok (.istore_n 3, 1) := by decide +kernel
theorem dX7_configure_33 : decode cX7_configure 33 = .ok (.iconst 0, 1) := by decide +kernel
theorem dX7_configure_34 : decode cX7_configure 34 = .ok (.istore 4, 2) := by decide +kernel
theorem dX7_configure_36 : decode cX7_configure 36 = .ok (.iload 4, 2) := by decide +kernel
theorem dX7_configure_38 : decode cX7_configure 38 = .ok (.bipush 16, 2) := by decide +kernel
theorem dX7_configure_40 : decode cX7_configure 40 = .ok (.if_icmp .ge 26, 3) := by decide +kernel
theorem dX7_configure_43 : decode cX7_configure 43 = .ok (.iload_n 3, 1) := by decide +kernel
theorem dX7_configure_44 : decode cX7_configure 44 = .ok (.aload_n 0, 1) := by decide +kernel
theorem dX7_configure_45 : decode cX7_configure 45 = .ok (.iload 4, 2) := by decide +kernel
theorem dX7_configure_47 : decode cX7_configure 47 = .ok (.invokevirtual 47, 3) := by decide +kernel
theorem dX7_configure_50 : decode cX7_configure 50 = .ok (.ifCond .ne 7, 3) := by decide +kernel
theorem dX7_configure_53 : decode cX7_configure 53 = .ok (.iconst 1, 1) := by decide +kernel
theorem dX7_configure_54 : decode cX7_configure 54 = .ok (.goto 4, 3) := by decide +kernel
theorem dX7_configure_57 : decode cX7_configure 57 = .ok (.iconst 0, 1) := by decide +kernel
theorem dX7_configure_58 : decode cX7_configure 58 = .ok (.iadd, 1) := by decide +kernel
theorem dX7_configure_59 : decode cX7_configure 59 = .ok (.istore_n 3, 1) := by decide +kernel
theorem dX7_configure_60 : decode cX7_configure 60 = .ok (.iinc 4 1, 3) := by decide +kernel
theorem dX7_configure_63 : decode cX7_configure 63 = .ok (.goto (-27), 3) := by decide +kernel
theorem dX7_configure_66 : decode cX7_configure 66 = .ok (.iload_n 3, 1) := by decide +kernel
theorem dX7_configure_67 : decode cX7_configure 67 = .ok (.ireturn, 1) := by decide +kernel
theorem dX7_change_0 : decode cX7_change 0 = .ok (.aload_n 0, 1) := by decide +kernel
theorem dX7_change_1 : decode cX7_change 1 = .ok (.invokevirtual 44, 3) := by decide +kernel
theorem dX7_change_4 : decode cX7_change 4 = .ok (.aload_n 0, 1) := by decide +kernel
theorem dX7_change_5 : decode cX7_change 5 = .ok (.getfield 7, 3) := by decide +kernel
theorem dX7_change_8 : decode cX7_change 8 = .ok (.iload_n 1, 1) := by decide +kernel
theorem dX7_change_9 : decode cX7_change 9 = .ok (.iaload, 1) := by decide +kernel
theorem dX7_change_10 : decode cX7_change 10 = .ok (.istore_n 3, 1) := by decide +kernel
theorem dX7_change_11 : decode cX7_change 11 = .ok (.aload_n 0, 1) := by decide +kernel
theorem dX7_change_12 : decode cX7_change 12 = .ok (.getfield 7, 3) := by decide +kernel
theorem dX7_change_15 : decode cX7_change 15 = .ok (.iload_n 1, 1) := by decide +kernel
theorem dX7_change_16 : decode cX7_change 16 = .ok (.iload_n 2, 1) := by decide +kernel
theorem dX7_change_17 : decode cX7_change 17 = .ok (.iastore, 1) := by decide +kernel
theorem dX7_change_18 : decode cX7_change 18 = .ok (.iload_n 3, 1) := by decide +kernel
theorem dX7_change_19 : decode cX7_change 19 = .ok (.ireturn, 1) := by decide +kernel
theorem dX7_setDelay_0 : decode cX7_setDelay 0 = .ok (.aload_n 0, 1) := by decide +kernel
theorem dX7_setDelay_1 : decode cX7_setDelay 1 = .ok (.iload_n 1, 1) := by decide +kernel
theorem dX7_setDelay_2 : decode cX7_setDelay 2 = .ok (.invokevirtual 51, 3) := by decide +kernel
theorem dX7_setDelay_5 : decode cX7_setDelay 5 = .ok (.ifCond .eq 25, 3) := by decide +kernel
theorem dX7_setDelay_8 : decode cX7_setDelay 8 = .ok (.iload_n 2, 1) := by decide +kernel
theorem dX7_setDelay_9 : decode cX7_setDelay 9 = .ok (.iconst 0, 1) := by decide +kernel
theorem dX7_setDelay_10 : decode cX7_setDelay 10 = .ok (.bipush 50, 2) := by decide +kernel
theorem dX7_setDelay_12 : decode cX7_setDelay 12 = .ok (.invokestatic 36, 3) := by decide +kernel
theorem dX7_setDelay_15 : decode cX7_setDelay 15 = .ok (.ifCond .eq 15, 3) := by decide +kernel
theorem dX7_setDelay_18 : decode cX7_setDelay 18 = .ok (.aload_n 0, 1) := by decide +kernel
theorem dX7_setDelay_19 : decode cX7_setDelay 19 = .ok (.bipush 9, 2) := by decide +kernel
theorem dX7_setDelay_21 : decode cX7_setDelay 21 = .ok (.iload_n 1, 1) := by decide +kernel
theorem dX7_setDelay_22 : decode cX7_setDelay 22 = .ok (.iadd, 1) := by decide +kernel
theorem dX7_setDelay_23 : decode cX7_setDelay 23 = .ok (.iload_n 2, 1) := by decide +kernel
theorem dX7_setDelay_24 : decode cX7_setDelay 24 = .ok (.invokevirtual 55, 3) := by decide +kernel
theorem dX7_setDelay_27 : decode cX7_setDelay 27 = .ok (.goto 4, 3) := by decide +kernel
theorem dX7_setDelay_30 : decode cX7_setDelay 30 = .ok (.iconst (-1), 1) := by decide +kernel
theorem dX7_setDelay_31 : decode cX7_setDelay 31 = .ok (.ireturn, 1) := by decide +kernel
theorem dX7_setRate_0 : decode cX7_setRate 0 = .ok (.aload_n 0, 1) := by decide +kernel
theorem dX7_setRate_1 : decode cX7_setRate 1 = .ok (.iload_n 1, 1) := by decide +kernel
theorem dX7_setRate_2 : decode cX7_setRate 2 = .ok (.invokevirtual 51, 3) := by decide +kernel
theorem dX7_setRate_5 : decode cX7_setRate 5 = .ok (.ifCond .eq 25, 3) := by decide +kernel
theorem dX7_setRate_8 : decode cX7_setRate 8 = .ok (.iload_n 2, 1) := by decide +kernel
theorem dX7_setRate_9 : decode cX7_setRate 9 = .ok (.iconst 1, 1) := by decide +kernel
theorem dX7_setRate_10 : decode cX7_setRate 10 = .ok (.bipush 100, 2) := by decide +kernel
theorem dX7_setRate_12 : decode cX7_setRate 12 = .ok (.invokestatic 36, 3) := by decide +kernel
theorem dX7_setRate_15 : decode cX7_setRate 15 = .ok (.ifCond .eq 15, 3) := by decide +kernel
theorem dX7_setRate_18 : decode cX7_setRate 18 = .ok (.aload_n 0, 1) := by decide +kernel
theorem dX7_setRate_19 : decode cX7_setRate 19 = .ok (.bipush 13, 2) := by decide +kernel
theorem dX7_setRate_21 : decode cX7_setRate 21 = .ok (.iload_n 1, 1) := by decide +kernel
theorem dX7_setRate_22 : decode cX7_setRate 22 = .ok (.iadd, 1) := by decide +kernel
theorem dX7_setRate_23 : decode cX7_setRate 23 = .ok (.iload_n 2, 1) := by decide +kernel
theorem dX7_setRate_24 : decode cX7_setRate 24 = .ok (.invokevirtual 55, 3) := by decide +kernel
theorem dX7_setRate_27 : decode cX7_setRate 27 = .ok (.goto 4, 3) := by decide +kernel
theorem dX7_setRate_30 : decode cX7_setRate 30 = .ok (.iconst (-1), 1) := by decide +kernel
theorem dX7_setRate_31 : decode cX7_setRate 31 = .ok (.ireturn, 1) := by decide +kernel
theorem dX7_setRemoteLevel_0 : decode cX7_setRemoteLevel 0 = .ok (.aload_n 0, 1) := by decide +kernel
theorem dX7_setRemoteLevel_1 : decode cX7_setRemoteLevel 1 = .ok (.iload_n 1, 1) := by decide +kernel
theorem dX7_setRemoteLevel_2 : decode cX7_setRemoteLevel 2 = .ok (.invokevirtual 51, 3) := by decide +kernel
theorem dX7_setRemoteLevel_5 : decode cX7_setRemoteLevel 5 = .ok (.ifCond .eq 25, 3) := by decide +kernel
theorem dX7_setRemoteLevel_8 : decode cX7_setRemoteLevel 8 = .ok (.iload_n 2, 1) := by decide +kernel
theorem dX7_setRemoteLevel_9 : decode cX7_setRemoteLevel 9 = .ok (.iconst 0, 1) := by decide +kernel
theorem dX7_setRemoteLevel_10 : decode cX7_setRemoteLevel 10 = .ok (.bipush 7, 2) := by decide +kernel
theorem dX7_setRemoteLevel_12 : decode cX7_setRemoteLevel 12 = .ok (.invokestatic 36, 3) := by decide +kernel
theorem dX7_setRemoteLevel_15 : decode cX7_setRemoteLevel 15 = .ok (.ifCond .eq 15, 3) := by decide +kernel
theorem dX7_setRemoteLevel_18 : decode cX7_setRemoteLevel 18 = .ok (.aload_n 0, 1) := by decide +kernel
theorem dX7_setRemoteLevel_19 : decode cX7_setRemoteLevel 19 = .ok (.bipush 17, 2) := by decide +kernel
theorem dX7_setRemoteLevel_21 : decode cX7_setRemoteLevel 21 = .ok (.iload_n 1, 1) := by decide +kernel
theorem dX7_setRemoteLevel_22 : decode cX7_setRemoteLevel 22 = .ok (.iadd, 1) := by decide +kernel
theorem dX7_setRemoteLevel_23 : decode cX7_setRemoteLevel 23 = .ok (.iload_n 2, 1) := by decide +kernel
theorem dX7_setRemoteLevel_24 : decode cX7_setRemoteLevel 24 = .ok (.invokevirtual 55, 3) := by decide +kernel
theorem dX7_setRemoteLevel_27 : decode cX7_setRemoteLevel 27 = .ok (.goto 4, 3) := by decide +kernel
theorem dX7_setRemoteLevel_30 : decode cX7_setRemoteLevel 30 = .ok (.iconst (-1), 1) := by decide +kernel
theorem dX7_setRemoteLevel_31 : decode cX7_setRemoteLevel 31 = .ok (.ireturn, 1) := by decide +kernel
theorem dX7_setMode_0 : decode cX7_setMode 0 = .ok (.iload_n 1, 1) := by decide +kernel
theorem dX7_setMode_1 : decode cX7_setMode 1 = .ok (.iconst 0, 1) := by decide +kernel
theorem dX7_setMode_2 : decode cX7_setMode 2 = .ok (.iconst 3, 1) := by decide +kernel
theorem dX7_setMode_3 : decode cX7_setMode 3 = .ok (.invokestatic 36, 3) := by decide +kernel
theorem dX7_setMode_6 : decode cX7_setMode 6 = .ok (.ifCond .eq 12, 3) := by decide +kernel
theorem dX7_setMode_9 : decode cX7_setMode 9 = .ok (.aload_n 0, 1) := by decide +kernel
theorem dX7_setMode_10 : decode cX7_setMode 10 = .ok (.iconst 5, 1) := by decide +kernel
theorem dX7_setMode_11 : decode cX7_setMode 11 = .ok (.iload_n 1, 1) := by decide +kernel
theorem dX7_setMode_12 : decode cX7_setMode 12 = .ok (.invokevirtual 55, 3) := by decide +kernel
theorem dX7_setMode_15 : decode cX7_setMode 15 = .ok (.goto 4, 3) := by decide +kernel
theorem dX7_setMode_18 : decode cX7_setMode 18 = .ok (.iconst (-1), 1) := by decide +kernel
theorem dX7_setMode_19 : decode cX7_setMode 19 = .ok (.ireturn, 1) := by decide +kernel
theorem dX7_setDetection_0 : decode cX7_setDetection 0 = .ok (.iload_n 1, 1) := by decide +kernel
theorem dX7_setDetection_1 : decode cX7_setDetection 1 = .ok (.iconst 0, 1) := by decide +kernel
theorem dX7_setDetection_2 : decode cX7_setDetection 2 = .ok (.iconst 1, 1) := by decide +kernel
theorem dX7_setDetection_3 : decode cX7_setDetection 3 = .ok (.invokestatic 36, 3) := by decide +kernel
theorem dX7_setDetection_6 : decode cX7_setDetection 6 = .ok (.ifCond .eq 12, 3) := by decide +kernel
theorem dX7_setDetection_9 : decode cX7_setDetection 9 = .ok (.aload_n 0, 1) := by decide +kernel
theorem dX7_setDetection_10 : decode cX7_setDetection 10 = .ok (.iconst 4, 1) := by decide +kernel
theorem dX7_setDetection_11 : decode cX7_setDetection 11 = .ok (.iload_n 1, 1) := by decide +kernel
theorem dX7_setDetection_12 : decode cX7_setDetection 12 = .ok (.invokevirtual 55, 3) := by decide +kernel
theorem dX7_setDetection_15 : decode cX7_setDetection 15 = .ok (.goto 4, 3) := by decide +kernel
theorem dX7_setDetection_18 : decode cX7_setDetection 18 = .ok (.iconst (-1), 1) := by decide +kernel
theorem dX7_setDetection_19 : decode cX7_setDetection 19 = .ok (.ireturn, 1) := by decide +kernel
theorem dX7_setGap_0 : decode cX7_setGap 0 = .ok (.iload_n 1, 1) := by decide +kernel
theorem dX7_setGap_1 : decode cX7_setGap 1 = .ok (.iconst 1, 1) := by decide +kernel
theorem dX7_setGap_2 : decode cX7_setGap 2 = .ok (.sipush 200, 3) := by decide +kernel
theorem dX7_setGap_5 : decode cX7_setGap 5 = .ok (.invokestatic 36, 3) := by decide +kernel
theorem dX7_setGap_8 : decode cX7_setGap 8 = .ok (.ifCond .eq 12, 3) := by decide +kernel
theorem dX7_setGap_11 : decode cX7_setGap 11 = .ok (.aload_n 0, 1) := by decide +kernel
theorem dX7_setGap_12 : decode cX7_setGap 12 = .ok (.iconst 3, 1) := by decide +kernel
theorem dX7_setGap_13 : decode cX7_setGap 13 = .ok (.iload_n 1, 1) := by decide +kernel
theorem dX7_setGap_14 : decode cX7_setGap 14 = .ok (.invokevirtual 55, 3) := by decide +kernel
theorem dX7_setGap_17 : decode cX7_setGap 17 = .ok (.goto 4, 3) := by decide +kernel
theorem dX7_setGap_20 : decode cX7_setGap 20 = .ok (.iconst (-1), 1) := by decide +kernel
theorem dX7_setGap_21 : decode cX7_setGap 21 = .ok (.ireturn, 1) := by decide +kernel
theorem dX7_setShift_0 : decode cX7_setShift 0 = .ok (.iload_n 1, 1) := by decide +kernel
theorem dX7_setShift_1 : decode cX7_setShift 1 = .ok (.iconst 1, 1) := by decide +kernel
theorem dX7_setShift_2 : decode cX7_setShift 2 = .ok (.iconst 4, 1) := by decide +kernel
theorem dX7_setShift_3 : decode cX7_setShift 3 = .ok (.invokestatic 36, 3) := by decide +kernel
theorem dX7_setShift_6 : decode cX7_setShift 6 = .ok (.ifCond .eq 13, 3) := by decide +kernel
theorem dX7_setShift_9 : decode cX7_setShift 9 = .ok (.aload_n 0, 1) := by decide +kernel
theorem dX7_setShift_10 : decode cX7_setShift 10 = .ok (.bipush 6, 2) := by decide +kernel
theorem dX7_setShift_12 : decode cX7_setShift 12 = .ok (.iload_n 1, 1) := by decide +kernel
theorem dX7_setShift_13 : decode cX7_setShift 13 = .ok (.invokevirtual 55, 3) := by decide +kernel
theorem dX7_setShift_16 : decode cX7_setShift 16 = .ok (.goto 4, 3) := by decide +kernel
theorem dX7_setShift_19 : decode cX7_setShift 19 = .ok (.iconst (-1), 1) := by decide +kernel
theorem dX7_setShift_20 : decode cX7_setShift 20 = .ok (.ireturn, 1) := by decide +kernel
theorem dX7_setGenerator_0 : decode cX7_setGenerator 0 = .ok (.iload_n 1, 1) := by decide +kernel
theorem dX7_setGenerator_1 : decode cX7_setGenerator 1 = .ok (.ifCond .lt 13, 3) := by decide +kernel
theorem dX7_setGenerator_4 : decode cX7_setGenerator 4 = .ok (.aload_n 0, 1) := by decide +kernel
theorem dX7_setGenerator_5 : decode cX7_setGenerator 5 = .ok (.bipush 7, 2) := by decide +kernel
theorem dX7_setGenerator_7 : decode cX7_setGenerator 7 = .ok (.iload_n 1, 1) := by decide +kernel
theorem dX7_setGenerator_8 : decode cX7_setGenerator 8 = .ok (.invokevirtual 55, 3) := by decide +kernel
theorem dX7_setGenerator_11 : decode cX7_setGenerator 11 = .ok (.goto 4, 3) := by decide +kernel
theorem dX7_setGenerator_14 : decode cX7_setGenerator 14 = .ok (.iconst (-1), 1) := by decide +kernel
theorem dX7_setGenerator_15 : decode cX7_setGenerator 15 = .ok (.ireturn, 1) := by decide +kernel
theorem dX7_age_0 : decode cX7_age 0 = .ok (.iconst 0, 1) := by decide +kernel
theorem dX7_age_1 : decode cX7_age 1 = .ok (.istore_n 1, 1) := by decide +kernel
theorem dX7_age_2 : decode cX7_age 2 = .ok (.iload_n 1, 1) := by decide +kernel
theorem dX7_age_3 : decode cX7_age 3 = .ok (.aload_n 0, 1) := by decide +kernel
theorem dX7_age_4 : decode cX7_age 4 = .ok (.getfield 7, 3) := by decide +kernel
theorem dX7_age_7 : decode cX7_age 7 = .ok (.iconst 2, 1) := by decide +kernel
theorem dX7_age_8 : decode cX7_age 8 = .ok (.iaload, 1) := by decide +kernel
theorem dX7_age_9 : decode cX7_age 9 = .ok (.if_icmp .ge 52, 3) := by decide +kernel
theorem dX7_age_12 : decode cX7_age 12 = .ok (.aload_n 0, 1) := by decide +kernel
theorem dX7_age_13 : decode cX7_age 13 = .ok (.getfield 7, 3) := by decide +kernel
theorem dX7_age_16 : decode cX7_age 16 = .ok (.bipush 41, 2) := by decide +kernel
theorem dX7_age_18 : decode cX7_age 18 = .ok (.iload_n 1, 1) := by decide +kernel
theorem dX7_age_19 : decode cX7_age 19 = .ok (.iadd, 1) := by decide +kernel
theorem dX7_age_20 : decode cX7_age 20 = .ok (.iaload, 1) := by decide +kernel
theorem dX7_age_21 : decode cX7_age 21 = .ok (.iconst 1, 1) := by decide +kernel
theorem dX7_age_22 : decode cX7_age 22 = .ok (.if_icmp .ne 33, 3) := by decide +kernel
theorem dX7_age_25 : decode cX7_age 25 = .ok (.aload_n 0, 1) := by decide +kernel
theorem dX7_age_26 : decode cX7_age 26 = .ok (.getfield 7, 3) := by decide +kernel
theorem dX7_age_29 : decode cX7_age 29 = .ok (.bipush 41, 2) := by decide +kernel
theorem dX7_age_31 : decode cX7_age 31 = .ok (.iload_n 1, 1) := by decide +kernel
theorem dX7_age_32 : decode cX7_age 32 = .ok (.iadd, 1) := by decide +kernel
theorem dX7_age_33 : decode cX7_age 33 = .ok (.iconst 1, 1) := by decide +kernel
theorem dX7_age_34 : decode cX7_age 34 = .ok (.aload_n 0, 1) := by decide +kernel
theorem dX7_age_35 : decode cX7_age 35 = .ok (.getfield 7, 3) := by decide +kernel
theorem dX7_age_38 : decode cX7_age 38 = .ok (.bipush 65, 2) := by decide +kernel
theorem dX7_age_40 : decode cX7_age 40 = .ok (.iload_n 1, 1) := by decide +kernel
theorem dX7_age_41 : decode cX7_age 41 = .ok (.iadd, 1) := by decide +kernel
theorem dX7_age_42 : decode cX7_age 42 = .ok (.iaload, 1) := by decide +kernel
theorem dX7_age_43 : decode cX7_age 43 = .ok (.isub, 1) := by decide +kernel
theorem dX7_age_44 : decode cX7_age 44 = .ok (.iastore, 1) := by decide +kernel
theorem dX7_age_45 : decode cX7_age 45 = .ok (.aload_n 0, 1) := by decide +kernel
theorem dX7_age_46 : decode cX7_age 46 = .ok (.getfield 7, 3) := by decide +kernel
theorem dX7_age_49 : decode cX7_age 49 = .ok (.bipush 65, 2) := by decide +kernel
theorem dX7_age_51 : decode cX7_age 51 = .ok (.iload_n 1, 1) := by decide +kernel
theorem dX7_age_52 : decode cX7_age 52 = .ok (.iadd, 1) := by decide +kernel
theorem dX7_age_53 : decode cX7_age 53 = .ok (.iconst 1, 1) := by decide +kernel
theorem dX7_age_54 : decode cX7_age 54 = .ok (.iastore, 1) := by decide +kernel
theorem dX7_age_55 : decode cX7_age 55 = .ok (.iinc 1 1, 3) := by decide +kernel
theorem dX7_age_58 : decode cX7_age 58 = .ok (.goto (-56), 3) := by decide +kernel
theorem dX7_age_61 : decode cX7_age 61 = .ok (.return_, 1) := by decide +kernel
theorem dX7_tick_0 : decode cX7_tick 0 = .ok (.aload_n 0, 1) := by decide +kernel
theorem dX7_tick_1 : decode cX7_tick 1 = .ok (.getfield 7, 3) := by decide +kernel
theorem dX7_tick_4 : decode cX7_tick 4 = .ok (.iconst 0, 1) := by decide +kernel
theorem dX7_tick_5 : decode cX7_tick 5 = .ok (.dup2, 1) := by decide +kernel
theorem dX7_tick_6 : decode cX7_tick 6 = .ok (.iaload, 1) := by decide +kernel
theorem dX7_tick_7 : decode cX7_tick 7 = .ok (.iconst 1, 1) := by decide +kernel
theorem dX7_tick_8 : decode cX7_tick 8 = .ok (.iadd, 1) := by decide +kernel
theorem dX7_tick_9 : decode cX7_tick 9 = .ok (.iastore, 1) := by decide +kernel
theorem dX7_tick_10 : decode cX7_tick 10 = .ok (.iconst 0, 1) := by decide +kernel
theorem dX7_tick_11 : decode cX7_tick 11 = .ok (.istore_n 1, 1) := by decide +kernel
theorem dX7_tick_12 : decode cX7_tick 12 = .ok (.iload_n 1, 1) := by decide +kernel
theorem dX7_tick_13 : decode cX7_tick 13 = .ok (.aload_n 0, 1) := by decide +kernel
theorem dX7_tick_14 : decode cX7_tick 14 = .ok (.getfield 7, 3) := by decide +kernel
theorem dX7_tick_17 : decode cX7_tick 17 = .ok (.iconst 1, 1) := by decide +kernel
theorem dX7_tick_18 : decode cX7_tick 18 = .ok (.iaload, 1) := by decide +kernel
theorem dX7_tick_19 : decode cX7_tick 19 = .ok (.if_icmp .ge 50, 3) := by decide +kernel
theorem dX7_tick_22 : decode cX7_tick 22 = .ok (.aload_n 0, 1) := by decide +kernel
theorem dX7_tick_23 : decode cX7_tick 23 = .ok (.getfield 7, 3) := by decide +kernel
theorem dX7_tick_26 : decode cX7_tick 26 = .ok (.iconst 0, 1) := by decide +kernel
theorem dX7_tick_27 : decode cX7_tick 27 = .ok (.iaload, 1) := by decide +kernel
theorem dX7_tick_28 : decode cX7_tick 28 = .ok (.bipush 10, 2) := by decide +kernel
theorem dX7_tick_30 : decode cX7_tick 30 = .ok (.irem, 1) := by decide +kernel
theorem dX7_tick_31 : decode cX7_tick 31 = .ok (.ifCond .ne 38, 3) := by decide +kernel
theorem dX7_tick_34 : decode cX7_tick 34 = .ok (.aload_n 0, 1) := by decide +kernel
theorem dX7_tick_35 : decode cX7_tick 35 = .ok (.getfield 7, 3) := by decide +kernel
theorem dX7_tick_38 : decode cX7_tick 38 = .ok (.bipush 21, 2) := by decide +kernel
theorem dX7_tick_40 : decode cX7_tick 40 = .ok (.iload_n 1, 1) := by decide +kernel
theorem dX7_tick_41 : decode cX7_tick 41 = .ok (.iadd, 1) := by decide +kernel
theorem dX7_tick_42 : decode cX7_tick 42 = .ok (.dup2, 1) := by decide +kernel
theorem dX7_tick_43 : decode cX7_tick 43 = .ok (.iaload, 1) := by decide +kernel
theorem dX7_tick_44 : decode cX7_tick 44 = .ok (.aload_n 0, 1) := by decide +kernel
theorem dX7_tick_45 : decode cX7_tick 45 = .ok (.getfield 7, 3) := by decide +kernel
theorem dX7_tick_48 : decode cX7_tick 48 = .ok (.bipush 21, 2) := by decide +kernel
theorem dX7_tick_50 : decode cX7_tick 50 = .ok (.iload_n 1, 1) := by decide +kernel
theorem dX7_tick_51 : decode cX7_tick 51 = .ok (.iadd, 1) := by decide +kernel
theorem dX7_tick_52 : decode cX7_tick 52 = .ok (.iaload, 1) := by decide +kernel
theorem dX7_tick_53 : decode cX7_tick 53 = .ok (.aload_n 0, 1) := by decide +kernel
theorem dX7_tick_54 : decode cX7_tick 54 = .ok (.getfield 7, 3) := by decide +kernel
theorem dX7_tick_57 : decode cX7_tick 57 = .ok (.bipush 6, 2) := by decide +kernel
theorem dX7_tick_59 : decode cX7_tick 59 = .ok (.iaload, 1) := by decide +kernel
theorem dX7_tick_60 : decode cX7_tick 60 = .ok (.ishr, 1) := by decide +kernel
theorem dX7_tick_61 : decode cX7_tick 61 = .ok (.isub, 1) := by decide +kernel
theorem dX7_tick_62 : decode cX7_tick 62 = .ok (.iastore, 1) := by decide +kernel
theorem dX7_tick_63 : decode cX7_tick 63 = .ok (.iinc 1 1, 3) := by decide +kernel
theorem dX7_tick_66 : decode cX7_tick 66 = .ok (.goto (-54), 3) := by decide +kernel
theorem dX7_tick_69 : decode cX7_tick 69 = .ok (.aload_n 0, 1) := by decide +kernel
theorem dX7_tick_70 : decode cX7_tick 70 = .ok (.getfield 7, 3) := by decide +kernel
theorem dX7_tick_73 : decode cX7_tick 73 = .ok (.iconst 4, 1) := by decide +kernel
theorem dX7_tick_74 : decode cX7_tick 74 = .ok (.iaload, 1) := by decide +kernel
theorem dX7_tick_75 : decode cX7_tick 75 = .ok (.iconst 1, 1) := by decide +kernel
theorem dX7_tick_76 : decode cX7_tick 76 = .ok (.if_icmp .ne 23, 3) := by decide +kernel
theorem dX7_tick_79 : decode cX7_tick 79 = .ok (.aload_n 0, 1) := by decide +kernel
theorem dX7_tick_80 : decode cX7_tick 80 = .ok (.getfield 7, 3) := by decide +kernel
theorem dX7_tick_83 : decode cX7_tick 83 = .ok (.iconst 0, 1) := by decide +kernel
theorem dX7_tick_84 : decode cX7_tick 84 = .ok (.iaload, 1) := by decide +kernel
theorem dX7_tick_85 : decode cX7_tick 85 = .ok (.aload_n 0, 1) := by decide +kernel
theorem dX7_tick_86 : decode cX7_tick 86 = .ok (.getfield 7, 3) := by decide +kernel
theorem dX7_tick_89 : decode cX7_tick 89 = .ok (.iconst 3, 1) := by decide +kernel
theorem dX7_tick_90 : decode cX7_tick 90 = .ok (.iaload, 1) := by decide +kernel
theorem dX7_tick_91 : decode cX7_tick 91 = .ok (.irem, 1) := by decide +kernel
theorem dX7_tick_92 : decode cX7_tick 92 = .ok (.ifCond .ne 7, 3) := by decide +kernel
theorem dX7_tick_95 : decode cX7_tick 95 = .ok (.aload_n 0, 1) := by decide +kernel
theorem dX7_tick_96 : decode cX7_tick 96 = .ok (.invokevirtual 59, 3) := by decide +kernel
theorem dX7_tick_99 : decode cX7_tick 99 = .ok (.return_, 1) := by decide +kernel
theorem dX7_pass_0 : decode cX7_pass 0 = .ok (.iconst 0, 1) := by decide +kernel
theorem dX7_pass_1 : decode cX7_pass 1 = .ok (.istore_n 2, 1) := by decide +kernel
theorem dX7_pass_2 : decode cX7_pass 2 = .ok (.iload_n 2, 1) := by decide +kernel
theorem dX7_pass_3 : decode cX7_pass 3 = .ok (.iload_n 1, 1) := by decide +kernel
theorem dX7_pass_4 : decode cX7_pass 4 = .ok (.if_icmp .ge 13, 3) := by decide +kernel
theorem dX7_pass_7 : decode cX7_pass 7 = .ok (.aload_n 0, 1) := by decide +kernel
theorem dX7_pass_8 : decode cX7_pass 8 = .ok (.invokevirtual 62, 3) := by decide +kernel
theorem dX7_pass_11 : decode cX7_pass 11 = .ok (.iinc 2 1, 3) := by decide +kernel
theorem dX7_pass_14 : decode cX7_pass 14 = .ok (.goto (-12), 3) := by decide +kernel
theorem dX7_pass_17 : decode cX7_pass 17 = .ok (.aload_n 0, 1) := by decide +kernel
theorem dX7_pass_18 : decode cX7_pass 18 = .ok (.getfield 7, 3) := by decide +kernel
theorem dX7_pass_21 : decode cX7_pass 21 = .ok (.iconst 0, 1) := by decide +kernel
theorem dX7_pass_22 : decode cX7_pass 22 = .ok (.iaload, 1) := by decide +kernel
theorem dX7_pass_23 : decode cX7_pass 23 = .ok (.ireturn, 1) := by decide +kernel
theorem dX7_whyNotPass_0 : decode cX7_whyNotPass 0 = .ok (.iload_n 1, 1) := by decide +kernel
theorem dX7_whyNotPass_1 : decode cX7_whyNotPass 1 = .ok (.iconst 1, 1) := by decide +kernel
theorem dX7_whyNotPass_2 : decode cX7_whyNotPass 2 = .ok (.sipush 1000, 3) := by decide +kernel
theorem dX7_whyNotPass_5 : decode cX7_whyNotPass 5 = .ok (.invokestatic 36, 3) := by decide +kernel
theorem dX7_whyNotPass_8 : decode cX7_whyNotPass 8 = .ok (.ifCond .ne 7, 3) := by decide +kernel
theorem dX7_whyNotPass_11 : decode cX7_whyNotPass 11 = .ok (.iconst (-1), 1) := by decide +kernel
theorem dX7_whyNotPass_12 : decode cX7_whyNotPass 12 = .ok (.goto 22, 3) := by decide +kernel
theorem dX7_whyNotPass_15 : decode cX7_whyNotPass 15 = .ok (.aload_n 0, 1) := by decide +kernel
theorem dX7_whyNotPass_16 : decode cX7_whyNotPass 16 = .ok (.getfield 7, 3) := by decide +kernel
theorem dX7_whyNotPass_19 : decode cX7_whyNotPass 19 = .ok (.iconst 0, 1) := by decide +kernel
theorem dX7_whyNotPass_20 : decode cX7_whyNotPass 20 = .ok (.iaload, 1) := by decide +kernel
theorem dX7_whyNotPass_21 : decode cX7_whyNotPass 21 = .ok (.iload_n 1, 1) := by decide +kernel
theorem dX7_whyNotPass_22 : decode cX7_whyNotPass 22 = .ok (.iadd, 1) := by decide +kernel
theorem dX7_whyNotPass_23 : decode cX7_whyNotPass 23 = .ok (.ldc 65, 2) := by decide +kernel
theorem dX7_whyNotPass_25 : decode cX7_whyNotPass 25 = .ok (.if_icmp .le 8, 3) := by decide +kernel
theorem dX7_whyNotPass_28 : decode cX7_whyNotPass 28 = .ok (.bipush (-2), 2) := by decide +kernel
theorem dX7_whyNotPass_30 : decode cX7_whyNotPass 30 = .ok (.goto 4, 3) := by decide +kernel
theorem dX7_whyNotPass_33 : decode cX7_whyNotPass 33 = .ok (.iconst 0, 1) := by decide +kernel
theorem dX7_whyNotPass_34 : decode cX7_whyNotPass 34 = .ok (.ireturn, 1) := by decide +kernel
theorem dX7_advance_0 : decode cX7_advance 0 = .ok (.aload_n 0, 1) := by decide +kernel
theorem dX7_advance_1 : decode cX7_advance 1 = .ok (.iload_n 1, 1) := by decide +kernel
theorem dX7_advance_2 : decode cX7_advance 2 = .ok (.invokevirtual 66, 3) := by decide +kernel
theorem dX7_advance_5 : decode cX7_advance 5 = .ok (.istore_n 2, 1) := by decide +kernel
theorem dX7_advance_6 : decode cX7_advance 6 = .ok (.iload_n 2, 1) := by decide +kernel
theorem dX7_advance_7 : decode cX7_advance 7 = .ok (.ifCond .eq 5, 3) := by decide +kernel
theorem dX7_advance_10 : decode cX7_advance 10 = .ok (.iload_n 2, 1) := by decide +kernel
theorem dX7_advance_11 : decode cX7_advance 11 = .ok (.ireturn, 1) := by decide +kernel
theorem dX7_advance_12 : decode cX7_advance 12 = .ok (.aload_n 0, 1) := by decide +kernel
theorem dX7_advance_13 : decode cX7_advance 13 = .ok (.invokevirtual 44, 3) := by decide +kernel
theorem dX7_advance_16 : decode cX7_advance 16 = .ok (.aload_n 0, 1) := by decide +kernel
theorem dX7_advance_17 : decode cX7_advance 17 = .ok (.iload_n 1, 1) := by decide +kernel
theorem dX7_advance_18 : decode cX7_advance 18 = .ok (.invokevirtual 69, 3) := by decide +kernel
theorem dX7_advance_21 : decode cX7_advance 21 = .ok (.ireturn, 1) := by decide +kernel
theorem dX7_isLive_0 : decode cX7_isLive 0 = .ok (.aload_n 0, 1) := by decide +kernel
theorem dX7_isLive_1 : decode cX7_isLive 1 = .ok (.getfield 7, 3) := by decide +kernel
theorem dX7_isLive_4 : decode cX7_isLive 4 = .ok (.iconst 4, 1) := by decide +kernel
theorem dX7_isLive_5 : decode cX7_isLive 5 = .ok (.iaload, 1) := by decide +kernel
theorem dX7_isLive_6 : decode cX7_isLive 6 = .ok (.iconst 1, 1) := by decide +kernel
theorem dX7_isLive_7 : decode cX7_isLive 7 = .ok (.if_icmp .eq 28, 3) := by decide +kernel
theorem dX7_isLive_10 : decode cX7_isLive 10 = .ok (.aload_n 0, 1) := by decide +kernel
theorem dX7_isLive_11 : decode cX7_isLive 11 = .ok (.getfield 7, 3) := by decide +kernel
theorem dX7_isLive_14 : decode cX7_isLive 14 = .ok (.iconst 0, 1) := by decide +kernel
theorem dX7_isLive_15 : decode cX7_isLive 15 = .ok (.iaload, 1) := by decide +kernel
theorem dX7_isLive_16 : decode cX7_isLive 16 = .ok (.aload_n 0, 1) := by decide +kernel
theorem dX7_isLive_17 : decode cX7_isLive 17 = .ok (.getfield 7, 3) := by decide +kernel
theorem dX7_isLive_20 : decode cX7_isLive 20 = .ok (.bipush 57, 2) := by decide +kernel
theorem dX7_isLive_22 : decode cX7_isLive 22 = .ok (.iload_n 1, 1) := by decide +kernel
theorem dX7_isLive_23 : decode cX7_isLive 23 = .ok (.iadd, 1) := by decide +kernel
theorem dX7_isLive_24 : decode cX7_isLive 24 = .ok (.iaload, 1) := by decide +kernel
theorem dX7_isLive_25 : decode cX7_isLive 25 = .ok (.isub, 1) := by decide +kernel
theorem dX7_isLive_26 : decode cX7_isLive 26 = .ok (.aload_n 0, 1) := by decide +kernel
theorem dX7_isLive_27 : decode cX7_isLive 27 = .ok (.getfield 7, 3) := by decide +kernel
theorem dX7_isLive_30 : decode cX7_isLive 30 = .ok (.iconst 3, 1) := by decide +kernel
theorem dX7_isLive_31 : decode cX7_isLive 31 = .ok (.iaload, 1) := by decide +kernel
theorem dX7_isLive_32 : decode cX7_isLive 32 = .ok (.if_icmp .gt 7, 3) := by decide +kernel
theorem dX7_isLive_35 : decode cX7_isLive 35 = .ok (.iconst 1, 1) := by decide +kernel
theorem dX7_isLive_36 : decode cX7_isLive 36 = .ok (.goto 4, 3) := by decide +kernel
theorem dX7_isLive_39 : decode cX7_isLive 39 = .ok (.iconst 0, 1) := by decide +kernel
theorem dX7_isLive_40 : decode cX7_isLive 40 = .ok (.istore_n 2, 1) := by decide +kernel
theorem dX7_isLive_41 : decode cX7_isLive 41 = .ok (.aload_n 0, 1) := by decide +kernel
theorem dX7_isLive_42 : decode cX7_isLive 42 = .ok (.getfield 7, 3) := by decide +kernel
theorem dX7_isLive_45 : decode cX7_isLive 45 = .ok (.bipush 41, 2) := by decide +kernel
theorem dX7_isLive_47 : decode cX7_isLive 47 = .ok (.iload_n 1, 1) := by decide +kernel
theorem dX7_isLive_48 : decode cX7_isLive 48 = .ok (.iadd, 1) := by decide +kernel
theorem dX7_isLive_49 : decode cX7_isLive 49 = .ok (.iaload, 1) := by decide +kernel
theorem dX7_isLive_50 : decode cX7_isLive 50 = .ok (.iconst 1, 1) := by decide +kernel
theorem dX7_isLive_51 : decode cX7_isLive 51 = .ok (.if_icmp .ne 11, 3) := by decide +kernel
theorem dX7_isLive_54 : decode cX7_isLive 54 = .ok (.iload_n 2, 1) := by decide +kernel
theorem dX7_isLive_55 : decode cX7_isLive 55 = .ok (.ifCond .eq 7, 3) := by decide +kernel
theorem dX7_isLive_58 : decode cX7_isLive 58 = .ok (.iconst 1, 1) := by decide +kernel
theorem dX7_isLive_59 : decode cX7_isLive 59 = .ok (.goto 4, 3) := by decide +kernel
theorem dX7_isLive_62 : decode cX7_isLive 62 = .ok (.iconst 0, 1) := by decide +kernel
theorem dX7_isLive_63 : decode cX7_isLive 63 = .ok (.ireturn, 1) := by decide +kernel
theorem dX7_metricOf_0 : decode cX7_metricOf 0 = .ok (.aload_n 0, 1) := by decide +kernel
theorem dX7_metricOf_1 : decode cX7_metricOf 1 = .ok (.getfield 7, 3) := by decide +kernel
theorem dX7_metricOf_4 : decode cX7_metricOf 4 = .ok (.bipush 21, 2) := by decide +kernel
theorem dX7_metricOf_6 : decode cX7_metricOf 6 = .ok (.iload_n 1, 1) := by decide +kernel
theorem dX7_metricOf_7 : decode cX7_metricOf 7 = .ok (.iadd, 1) := by decide +kernel
theorem dX7_metricOf_8 : decode cX7_metricOf 8 = .ok (.iaload, 1) := by decide +kernel
theorem dX7_metricOf_9 : decode cX7_metricOf 9 = .ok (.bipush 64, 2) := by decide +kernel
theorem dX7_metricOf_11 : decode cX7_metricOf 11 = .ok (.idiv, 1) := by decide +kernel
theorem dX7_metricOf_12 : decode cX7_metricOf 12 = .ok (.istore_n 2, 1) := by decide +kernel
theorem dX7_metricOf_13 : decode cX7_metricOf 13 = .ok (.iload_n 2, 1) := by decide +kernel
theorem dX7_metricOf_14 : decode cX7_metricOf 14 = .ok (.bipush 7, 2) := by decide +kernel
theorem dX7_metricOf_16 : decode cX7_metricOf 16 = .ok (.if_icmp .le 8, 3) := by decide +kernel
theorem dX7_metricOf_19 : decode cX7_metricOf 19 = .ok (.bipush 7, 2) := by decide +kernel
theorem dX7_metricOf_21 : decode cX7_metricOf 21 = .ok (.goto 4, 3) := by decide +kernel
theorem dX7_metricOf_24 : decode cX7_metricOf 24 = .ok (.iload_n 2, 1) := by decide +kernel
theorem dX7_metricOf_25 : decode cX7_metricOf 25 = .ok (.istore_n 2, 1) := by decide +kernel
theorem dX7_metricOf_26 : decode cX7_metricOf 26 = .ok (.iload_n 2, 1) := by decide +kernel
theorem dX7_metricOf_27 : decode cX7_metricOf 27 = .ok (.aload_n 0, 1) := by decide +kernel
theorem dX7_metricOf_28 : decode cX7_metricOf 28 = .ok (.getfield 7, 3) := by decide +kernel
theorem dX7_metricOf_31 : decode cX7_metricOf 31 = .ok (.bipush 17, 2) := by decide +kernel
theorem dX7_metricOf_33 : decode cX7_metricOf 33 = .ok (.iload_n 1, 1) := by decide +kernel
theorem dX7_metricOf_34 : decode cX7_metricOf 34 = .ok (.iadd, 1) := by decide +kernel
theorem dX7_metricOf_35 : decode cX7_metricOf 35 = .ok (.iaload, 1) := by decide +kernel
theorem dX7_metricOf_36 : decode cX7_metricOf 36 = .ok (.if_icmp .le 7, 3) := by decide +kernel
theorem dX7_metricOf_39 : decode cX7_metricOf 39 = .ok (.iload_n 2, 1) := by decide +kernel
theorem dX7_metricOf_40 : decode cX7_metricOf 40 = .ok (.goto 12, 3) := by decide +kernel
theorem dX7_metricOf_43 : decode cX7_metricOf 43 = .ok (.aload_n 0, 1) := by decide +kernel
theorem dX7_metricOf_44 : decode cX7_metricOf 44 = .ok (.getfield 7, 3) := by decide +kernel
theorem dX7_metricOf_47 : decode cX7_metricOf 47 = .ok (.bipush 17, 2) := by decide +kernel
theorem dX7_metricOf_49 : decode cX7_metricOf 49 = .ok (.iload_n 1, 1) := by decide +kernel
theorem dX7_metricOf_50 : decode cX7_metricOf 50 = .ok (.iadd, 1) := by decide +kernel
theorem dX7_metricOf_51 : decode cX7_metricOf 51 = .ok (.iaload, 1) := by decide +kernel
theorem dX7_metricOf_52 : decode cX7_metricOf 52 = .ok (.ireturn, 1) := by decide +kernel
theorem dX7_leastLoaded_0 : decode cX7_leastLoaded 0 = .ok (.iconst 0, 1) := by decide +kernel
theorem dX7_leastLoaded_1 : decode cX7_leastLoaded 1 = .ok (.istore_n 2, 1) := by decide +kernel
theorem dX7_leastLoaded_2 : decode cX7_leastLoaded 2 = .ok (.iconst 1, 1) := by decide +kernel
theorem dX7_leastLoaded_3 : decode cX7_leastLoaded 3 = .ok (.istore_n 3, 1) := by decide +kernel
theorem dX7_leastLoaded_4 : decode cX7_leastLoaded 4 = .ok (.iload_n 3, 1) := by decide +kernel
theorem dX7_leastLoaded_5 : decode cX7_leastLoaded 5 = .ok (.aload_n 0, 1) := by decide +kernel
theorem dX7_leastLoaded_6 : decode cX7_leastLoaded 6 = .ok (.getfield 7, 3) := by decide +kernel
theorem dX7_leastLoaded_9 : decode cX7_leastLoaded 9 = .ok (.iconst 1, 1) := by decide +kernel
theorem dX7_leastLoaded_10 : decode cX7_leastLoaded 10 = .ok (.iaload, 1) := by decide +kernel
theorem dX7_leastLoaded_11 : decode cX7_leastLoaded 11 = .ok (.if_icmp .ge 28, 3) := by decide +kernel
theorem dX7_leastLoaded_14 : decode cX7_leastLoaded 14 = .ok (.aload_n 0, 1) := by decide +kernel
theorem dX7_leastLoaded_15 : decode cX7_leastLoaded 15 = .ok (.iload_n 3, 1) := by decide +kernel
theorem dX7_leastLoaded_16 : decode cX7_leastLoaded 16 = .ok (.invokevirtual 72, 3) := by decide +kernel
theorem dX7_leastLoaded_19 : decode cX7_leastLoaded 19 = .ok (.aload_n 0, 1) := by decide +kernel
theorem dX7_leastLoaded_20 : decode cX7_leastLoaded 20 = .ok (.iload_n 2, 1) := by decide +kernel
theorem dX7_leastLoaded_21 : decode cX7_leastLoaded 21 = .ok (.invokevirtual 72, 3) := by decide +kernel
theorem dX7_leastLoaded_24 : decode cX7_leastLoaded 24 = .ok (.if_icmp .ge 7, 3) := by decide +kernel
theorem dX7_leastLoaded_27 : decode cX7_leastLoaded 27 = .ok (.iload_n 3, 1) := by decide +kernel
theorem dX7_leastLoaded_28 : decode cX7_leastLoaded 28 = .ok (.goto 4, 3) := by decide +kernel
theorem dX7_leastLoaded_31 : decode cX7_leastLoaded 31 = .ok (.iload_n 2, 1) := by decide +kernel
theorem dX7_leastLoaded_32 : decode cX7_leastLoaded 32 = .ok (.istore_n 2, 1) := by decide +kernel
theorem dX7_leastLoaded_33 : decode cX7_leastLoaded 33 = .ok (.iinc 3 1, 3) := by decide +kernel
theorem dX7_leastLoaded_36 : decode cX7_leastLoaded 36 = .ok (.goto (-32), 3) := by decide +kernel
theorem dX7_leastLoaded_39 : decode cX7_leastLoaded 39 = .ok (.aload_n 0, 1) := by decide +kernel
theorem dX7_leastLoaded_40 : decode cX7_leastLoaded 40 = .ok (.getfield 7, 3) := by decide +kernel
theorem dX7_leastLoaded_43 : decode cX7_leastLoaded 43 = .ok (.bipush 49, 2) := by decide +kernel
theorem dX7_leastLoaded_45 : decode cX7_leastLoaded 45 = .ok (.iload_n 1, 1) := by decide +kernel
theorem dX7_leastLoaded_46 : decode cX7_leastLoaded 46 = .ok (.iadd, 1) := by decide +kernel
theorem dX7_leastLoaded_47 : decode cX7_leastLoaded 47 = .ok (.iaload, 1) := by decide +kernel
theorem dX7_leastLoaded_48 : decode cX7_leastLoaded 48 = .ok (.istore_n 3, 1) := by decide +kernel
theorem dX7_leastLoaded_49 : decode cX7_leastLoaded 49 = .ok (.iload_n 3, 1) := by decide +kernel
theorem dX7_leastLoaded_50 : decode cX7_leastLoaded 50 = .ok (.bipush (-9), 2) := by decide +kernel
theorem dX7_leastLoaded_52 : decode cX7_leastLoaded 52 = .ok (.if_icmp .eq 20, 3) := by decide +kernel
theorem dX7_leastLoaded_55 : decode cX7_leastLoaded 55 = .ok (.aload_n 0, 1) := by decide +kernel
theorem dX7_leastLoaded_56 : decode cX7_leastLoaded 56 = .ok (.iload_n 3, 1) := by decide +kernel
theorem dX7_leastLoaded_57 : decode cX7_leastLoaded 57 = .ok (.invokevirtual 72, 3) := by decide +kernel
theorem dX7_leastLoaded_60 : decode cX7_leastLoaded 60 = .ok (.aload_n 0, 1) := by decide +kernel
theorem dX7_leastLoaded_61 : decode cX7_leastLoaded 61 = .ok (.iload_n 2, 1) := by decide +kernel
theorem dX7_leastLoaded_62 : decode cX7_leastLoaded 62 = .ok (.invokevirtual 72, 3) := by decide +kernel
theorem dX7_leastLoaded_65 : decode cX7_leastLoaded 65 = .ok (.if_icmp .ne 7, 3) := by decide +kernel
theorem dX7_leastLoaded_68 : decode cX7_leastLoaded 68 = .ok (.iload_n 3, 1) := by decide +kernel
theorem dX7_leastLoaded_69 : decode cX7_leastLoaded 69 = .ok (.goto 4, 3) := by decide +kernel
theorem dX7_leastLoaded_72 : decode cX7_leastLoaded 72 = .ok (.iload_n 2, 1) := by decide +kernel
theorem dX7_leastLoaded_73 : decode cX7_leastLoaded 73 = .ok (.ireturn, 1) := by decide +kernel
theorem dX7_nextGenerator_0 : decode cX7_nextGenerator 0 = .ok (.aload_n 0, 1) := by decide +kernel
theorem dX7_nextGenerator_1 : decode cX7_nextGenerator 1 = .ok (.getfield 7, 3) := by decide +kernel
theorem dX7_nextGenerator_4 : decode cX7_nextGenerator 4 = .ok (.bipush 7, 2) := by decide +kernel
theorem dX7_nextGenerator_6 : decode cX7_nextGenerator 6 = .ok (.iaload, 1) := by decide +kernel
theorem dX7_nextGenerator_7 : decode cX7_nextGenerator 7 = .ok (.i2l, 1) := by decide +kernel
theorem dX7_nextGenerator_8 : decode cX7_nextGenerator 8 = .ok (.ldc2_w 75, 3) := by decide +kernel
theorem dX7_nextGenerator_11 : decode cX7_nextGenerator 11 = .ok (.lmul, 1) := by decide +kernel
theorem dX7_nextGenerator_12 : decode cX7_nextGenerator 12 = .ok (.ldc2_w 77, 3) := by decide +kernel
theorem dX7_nextGenerator_15 : decode cX7_nextGenerator 15 = .ok (.ladd, 1) := by decide +kernel
theorem dX7_nextGenerator_16 : decode cX7_nextGenerator 16 = .ok (.ldc2_w 79, 3) := by decide +kernel
theorem dX7_nextGenerator_19 : decode cX7_nextGenerator 19 = .ok (.lrem, 1) := by decide +kernel
theorem dX7_nextGenerator_20 : decode cX7_nextGenerator 20 = .ok (.l2i, 1) := by decide +kernel
theorem dX7_nextGenerator_21 : decode cX7_nextGenerator 21 = .ok (.ireturn, 1) := by decide +kernel
theorem dX7_isByFlowlets_0 : decode cX7_isByFlowlets 0 = .ok (.aload_n 0, 1) := by decide +kernel
theorem dX7_isByFlowlets_1 : decode cX7_isByFlowlets 1 = .ok (.getfield 7, 3) := by decide +kernel
theorem dX7_isByFlowlets_4 : decode cX7_isByFlowlets 4 = .ok (.iconst 5, 1) := by decide +kernel
theorem dX7_isByFlowlets_5 : decode cX7_isByFlowlets 5 = .ok (.iaload, 1) := by decide +kernel
theorem dX7_isByFlowlets_6 : decode cX7_isByFlowlets 6 = .ok (.iconst 1, 1) := by decide +kernel
theorem dX7_isByFlowlets_7 : decode cX7_isByFlowlets 7 = .ok (.if_icmp .eq 13, 3) := by decide +kernel
theorem dX7_isByFlowlets_10 : decode cX7_isByFlowlets 10 = .ok (.aload_n 0, 1) := by decide +kernel
theorem dX7_isByFlowlets_11 : decode cX7_isByFlowlets 11 = .ok (.getfield 7, 3) := by decide +kernel
theorem dX7_isByFlowlets_14 : decode cX7_isByFlowlets 14 = .ok (.iconst 5, 1) := by decide +kernel
theorem dX7_isByFlowlets_15 : decode cX7_isByFlowlets 15 = .ok (.iaload, 1) := by decide +kernel
theorem dX7_isByFlowlets_16 : decode cX7_isByFlowlets 16 = .ok (.iconst 3, 1) := by decide +kernel
theorem dX7_isByFlowlets_17 : decode cX7_isByFlowlets 17 = .ok (.if_icmp .ne 7, 3) := by decide +kernel
theorem dX7_isByFlowlets_20 : decode cX7_isByFlowlets 20 = .ok (.iconst 1, 1) := by decide +kernel
theorem dX7_isByFlowlets_21 : decode cX7_isByFlowlets 21 = .ok (.goto 4, 3) := by decide +kernel
theorem dX7_isByFlowlets_24 : decode cX7_isByFlowlets 24 = .ok (.iconst 0, 1) := by decide +kernel
theorem dX7_isByFlowlets_25 : decode cX7_isByFlowlets 25 = .ok (.ireturn, 1) := by decide +kernel
theorem dX7_choose_0 : decode cX7_choose 0 = .ok (.aload_n 0, 1) := by decide +kernel
theorem dX7_choose_1 : decode cX7_choose 1 = .ok (.getfield 7, 3) := by decide +kernel
theorem dX7_choose_4 : decode cX7_choose 4 = .ok (.iconst 5, 1) := by decide +kernel
theorem dX7_choose_5 : decode cX7_choose 5 = .ok (.iaload, 1) := by decide +kernel
theorem dX7_choose_6 : decode cX7_choose 6 = .ok (.ifCond .ne 12, 3) := by decide +kernel
theorem dX7_choose_9 : decode cX7_choose 9 = .ok (.iload_n 1, 1) := by decide +kernel
theorem dX7_choose_10 : decode cX7_choose 10 = .ok (.aload_n 0, 1) := by decide +kernel
theorem dX7_choose_11 : decode cX7_choose 11 = .ok (.getfield 7, 3) := by decide +kernel
theorem dX7_choose_14 : decode cX7_choose 14 = .ok (.iconst 1, 1) := by decide +kernel
theorem dX7_choose_15 : decode cX7_choose 15 = .ok (.iaload, 1) := by decide +kernel
theorem dX7_choose_16 : decode cX7_choose 16 = .ok (.irem, 1) := by decide +kernel
theorem dX7_choose_17 : decode cX7_choose 17 = .ok (.ireturn, 1) := by decide +kernel
theorem dX7_choose_18 : decode cX7_choose 18 = .ok (.aload_n 0, 1) := by decide +kernel
theorem dX7_choose_19 : decode cX7_choose 19 = .ok (.getfield 7, 3) := by decide +kernel
theorem dX7_choose_22 : decode cX7_choose 22 = .ok (.iconst 5, 1) := by decide +kernel
theorem dX7_choose_23 : decode cX7_choose 23 = .ok (.iaload, 1) := by decide +kernel
theorem dX7_choose_24 : decode cX7_choose 24 = .ok (.iconst 2, 1) := by decide +kernel
theorem dX7_choose_25 : decode cX7_choose 25 = .ok (.if_icmp .ne 18, 3) := by decide +kernel
theorem dX7_choose_28 : decode cX7_choose 28 = .ok (.aload_n 0, 1) := by decide +kernel
theorem dX7_choose_29 : decode cX7_choose 29 = .ok (.getfield 7, 3) := by decide +kernel
theorem dX7_choose_32 : decode cX7_choose 32 = .ok (.bipush 8, 2) := by decide +kernel
theorem dX7_choose_34 : decode cX7_choose 34 = .ok (.iaload, 1) := by decide +kernel
theorem dX7_choose_35 : decode cX7_choose 35 = .ok (.aload_n 0, 1) := by decide +kernel
theorem dX7_choose_36 : decode cX7_choose 36 = .ok (.getfield 7, 3) := by decide +kernel
theorem dX7_choose_39 : decode cX7_choose 39 = .ok (.iconst 1, 1) := by decide +kernel
theorem dX7_choose_40 : decode cX7_choose 40 = .ok (.iaload, 1) := by decide +kernel
theorem dX7_choose_41 : decode cX7_choose 41 = .ok (.irem, 1) := by decide +kernel
theorem dX7_choose_42 : decode cX7_choose 42 = .ok (.ireturn, 1) := by decide +kernel
theorem dX7_choose_43 : decode cX7_choose 43 = .ok (.aload_n 0, 1) := by decide +kernel
theorem dX7_choose_44 : decode cX7_choose 44 = .ok (.iload_n 1, 1) := by decide +kernel
theorem dX7_choose_45 : decode cX7_choose 45 = .ok (.invokevirtual 47, 3) := by decide +kernel
theorem dX7_choose_48 : decode cX7_choose 48 = .ok (.istore_n 2, 1) := by decide +kernel
theorem dX7_choose_49 : decode cX7_choose 49 = .ok (.aload_n 0, 1) := by decide +kernel
theorem dX7_choose_50 : decode cX7_choose 50 = .ok (.iload_n 2, 1) := by decide +kernel
theorem dX7_choose_51 : decode cX7_choose 51 = .ok (.invokevirtual 81, 3) := by decide +kernel
theorem dX7_choose_54 : decode cX7_choose 54 = .ok (.ifCond .eq 13, 3) := by decide +kernel
theorem dX7_choose_57 : decode cX7_choose 57 = .ok (.aload_n 0, 1) := by decide +kernel
theorem dX7_choose_58 : decode cX7_choose 58 = .ok (.getfield 7, 3) := by decide +kernel
theorem dX7_choose_61 : decode cX7_choose 61 = .ok (.bipush 49, 2) := by decide +kernel
theorem dX7_choose_63 : decode cX7_choose 63 = .ok (.iload_n 2, 1) := by decide +kernel
theorem dX7_choose_64 : decode cX7_choose 64 = .ok (.iadd, 1) := by decide +kernel
theorem dX7_choose_65 : decode cX7_choose 65 = .ok (.iaload, 1) := by decide +kernel
theorem dX7_choose_66 : decode cX7_choose 66 = .ok (.ireturn, 1) := by decide +kernel
theorem dX7_choose_67 : decode cX7_choose 67 = .ok (.aload_n 0, 1) := by decide +kernel
theorem dX7_choose_68 : decode cX7_choose 68 = .ok (.getfield 7, 3) := by decide +kernel
theorem dX7_choose_71 : decode cX7_choose 71 = .ok (.iconst 5, 1) := by decide +kernel
theorem dX7_choose_72 : decode cX7_choose 72 = .ok (.iaload, 1) := by decide +kernel
theorem dX7_choose_73 : decode cX7_choose 73 = .ok (.iconst 1, 1) := by decide +kernel
theorem dX7_choose_74 : decode cX7_choose 74 = .ok (.if_icmp .ne 11, 3) := by decide +kernel
theorem dX7_choose_77 : decode cX7_choose 77 = .ok (.aload_n 0, 1) := by decide +kernel
theorem dX7_choose_78 : decode cX7_choose 78 = .ok (.iload_n 2, 1) := by decide +kernel
theorem dX7_choose_79 : decode cX7_choose 79 = .ok (.invokevirtual 84, 3) := by decide +kernel
theorem dX7_choose_82 : decode cX7_choose 82 = .ok (.goto 17, 3) := by decide +kernel
theorem dX7_choose_85 : decode cX7_choose 85 = .ok (.aload_n 0, 1) := by decide +kernel
theorem dX7_choose_86 : decode cX7_choose 86 = .ok (.invokevirtual 87, 3) := by decide +kernel
theorem dX7_choose_89 : decode cX7_choose 89 = .ok (.ldc 91, 2) := by decide +kernel
theorem dX7_choose_91 : decode cX7_choose 91 = .ok (.idiv, 1) := by decide +kernel
theorem dX7_choose_92 : decode cX7_choose 92 = .ok (.aload_n 0, 1) := by decide +kernel
theorem dX7_choose_93 : decode cX7_choose 93 = .ok (.getfield 7, 3) := by decide +kernel
theorem dX7_choose_96 : decode cX7_choose 96 = .ok (.iconst 1, 1) := by decide +kernel
theorem dX7_choose_97 : decode cX7_choose 97 = .ok (.iaload, 1) := by decide +kernel
theorem dX7_choose_98 : decode cX7_choose 98 = .ok (.irem, 1) := by decide +kernel
theorem dX7_choose_99 : decode cX7_choose 99 = .ok (.ireturn, 1) := by decide +kernel
theorem dX7_take_0 : decode cX7_take 0 = .ok (.aload_n 0, 1) := by decide +kernel
theorem dX7_take_1 : decode cX7_take 1 = .ok (.getfield 7, 3) := by decide +kernel
theorem dX7_take_4 : decode cX7_take 4 = .ok (.bipush 8, 2) := by decide +kernel
theorem dX7_take_6 : decode cX7_take 6 = .ok (.dup2, 1) := by decide +kernel
theorem dX7_take_7 : decode cX7_take 7 = .ok (.iaload, 1) := by decide +kernel
theorem dX7_take_8 : decode cX7_take 8 = .ok (.aload_n 0, 1) := by decide +kernel
theorem dX7_take_9 : decode cX7_take 9 = .ok (.getfield 7, 3) := by decide +kernel
theorem dX7_take_12 : decode cX7_take 12 = .ok (.iconst 5, 1) := by decide +kernel
theorem dX7_take_13 : decode cX7_take 13 = .ok (.iaload, 1) := by decide +kernel
theorem dX7_take_14 : decode cX7_take 14 = .ok (.iconst 2, 1) := by decide +kernel
theorem dX7_take_15 : decode cX7_take 15 = .ok (.if_icmp .ne 7, 3) := by decide +kernel
theorem dX7_take_18 : decode cX7_take 18 = .ok (.iconst 1, 1) := by decide +kernel
theorem dX7_take_19 : decode cX7_take 19 = .ok (.goto 4, 3) := by decide +kernel
theorem dX7_take_22 : decode cX7_take 22 = .ok (.iconst 0, 1) := by decide +kernel
theorem dX7_take_23 : decode cX7_take 23 = .ok (.iadd, 1) := by decide +kernel
theorem dX7_take_24 : decode cX7_take 24 = .ok (.iastore, 1) := by decide +kernel
theorem dX7_take_25 : decode cX7_take 25 = .ok (.aload_n 0, 1) := by decide +kernel
theorem dX7_take_26 : decode cX7_take 26 = .ok (.invokevirtual 92, 3) := by decide +kernel
theorem dX7_take_29 : decode cX7_take 29 = .ok (.ifCond .ne 4, 3) := by decide +kernel
theorem dX7_take_32 : decode cX7_take 32 = .ok (.return_, 1) := by decide +kernel
theorem dX7_take_33 : decode cX7_take 33 = .ok (.aload_n 0, 1) := by decide +kernel
theorem dX7_take_34 : decode cX7_take 34 = .ok (.iload_n 1, 1) := by decide +kernel
theorem dX7_take_35 : decode cX7_take 35 = .ok (.invokevirtual 47, 3) := by decide +kernel
theorem dX7_take_38 : decode cX7_take 38 = .ok (.istore_n 3, 1) := by decide +kernel
theorem dX7_take_39 : decode cX7_take 39 = .ok (.aload_n 0, 1) := by decide +kernel
theorem dX7_take_40 : decode cX7_take 40 = .ok (.iload_n 3, 1) := by decide +kernel
theorem dX7_take_41 : decode cX7_take 41 = .ok (.invokevirtual 81, 3) := by decide +kernel
theorem dX7_take_44 : decode cX7_take 44 = .ok (.ifCond .ne 47, 3) := by decide +kernel
theorem dX7_take_47 : decode cX7_take 47 = .ok (.aload_n 0, 1) := by decide +kernel
theorem dX7_take_48 : decode cX7_take 48 = .ok (.getfield 7, 3) := by decide +kernel
theorem dX7_take_51 : decode cX7_take 51 = .ok (.bipush 73, 2) := by decide +kernel
theorem dX7_take_53 : decode cX7_take 53 = .ok (.iload_n 1, 1) := by decide +kernel
theorem dX7_take_54 : decode cX7_take 54 = .ok (.iadd, 1) := by decide +kernel
theorem dX7_take_55 : decode cX7_take 55 = .ok (.dup2, 1) := by decide +kernel
theorem dX7_take_56 : decode cX7_take 56 = .ok (.iaload, 1) := by decide +kernel
theorem dX7_take_57 : decode cX7_take 57 = .ok (.iconst 1, 1) := by decide +kernel
theorem dX7_take_58 : decode cX7_take 58 = .ok (.iadd, 1) := by decide +kernel
theorem dX7_take_59 : decode cX7_take 59 = .ok (.iastore, 1) := by decide +kernel
theorem dX7_take_60 : decode cX7_take 60 = .ok (.aload_n 0, 1) := by decide +kernel
theorem dX7_take_61 : decode cX7_take 61 = .ok (.getfield 7, 3) := by decide +kernel
theorem dX7_take_64 : decode cX7_take 64 = .ok (.bipush 7, 2) := by decide +kernel
theorem dX7_take_66 : decode cX7_take 66 = .ok (.aload_n 0, 1) := by decide +kernel
theorem dX7_take_67 : decode cX7_take 67 = .ok (.getfield 7, 3) := by decide +kernel
theorem dX7_take_70 : decode cX7_take 70 = .ok (.iconst 5, 1) := by decide +kernel
theorem dX7_take_71 : decode cX7_take 71 = .ok (.iaload, 1) := by decide +kernel
theorem dX7_take_72 : decode cX7_take 72 = .ok (.iconst 3, 1) := by decide +kernel
theorem dX7_take_73 : decode cX7_take 73 = .ok (.if_icmp .ne 10, 3) := by decide +kernel
theorem dX7_take_76 : decode cX7_take 76 = .ok (.aload_n 0, 1) := by decide +kernel
theorem dX7_take_77 : decode cX7_take 77 = .ok (.invokevirtual 87, 3) := by decide +kernel
theorem dX7_take_80 : decode cX7_take 80 = .ok (.goto 10, 3) := by decide +kernel
theorem dX7_take_83 : decode cX7_take 83 = .ok (.aload_n 0, 1) := by decide +kernel
theorem dX7_take_84 : decode cX7_take 84 = .ok (.getfield 7, 3) := by decide +kernel
theorem dX7_take_87 : decode cX7_take 87 = .ok (.bipush 7, 2) := by decide +kernel
theorem dX7_take_89 : decode cX7_take 89 = .ok (.iaload, 1) := by decide +kernel
theorem dX7_take_90 : decode cX7_take 90 = .ok (.iastore, 1) := by decide +kernel
theorem dX7_take_91 : decode cX7_take 91 = .ok (.aload_n 0, 1) := by decide +kernel
theorem dX7_take_92 : decode cX7_take 92 = .ok (.getfield 7, 3) := by decide +kernel
theorem dX7_take_95 : decode cX7_take 95 = .ok (.bipush 41, 2) := by decide +kernel
theorem dX7_take_97 : decode cX7_take 97 = .ok (.iload_n 3, 1) := by decide +kernel
theorem dX7_take_98 : decode cX7_take 98 = .ok (.iadd, 1) := by decide +kernel
theorem dX7_take_99 : decode cX7_take 99 = .ok (.iconst 1, 1) := by decide +kernel
theorem dX7_take_100 : decode cX7_take 100 = .ok (.iastore, 1) := by decide +kernel
theorem dX7_take_101 : decode cX7_take 101 = .ok (.aload_n 0, 1) := by decide +kernel
theorem dX7_take_102 : decode cX7_take 102 = .ok (.getfield 7, 3) := by decide +kernel
theorem dX7_take_105 : decode cX7_take 105 = .ok (.bipush 49, 2) := by decide +kernel
theorem dX7_take_107 : decode cX7_take 107 = .ok (.iload_n 3, 1) := by decide +kernel
theorem dX7_take_108 : decode cX7_take 108 = .ok (.iadd, 1) := by decide +kernel
theorem dX7_take_109 : decode cX7_take 109 = .ok (.iload_n 2, 1) := by decide +kernel
theorem dX7_take_110 : decode cX7_take 110 = .ok (.iastore, 1) := by decide +kernel
theorem dX7_take_111 : decode cX7_take 111 = .ok (.aload_n 0, 1) := by decide +kernel
theorem dX7_take_112 : decode cX7_take 112 = .ok (.getfield 7, 3) := by decide +kernel
theorem dX7_take_115 : decode cX7_take 115 = .ok (.bipush 57, 2) := by decide +kernel
theorem dX7_take_117 : decode cX7_take 117 = .ok (.iload_n 3, 1) := by decide +kernel
theorem dX7_take_118 : decode cX7_take 118 = .ok (.iadd, 1) := by decide +kernel
theorem dX7_take_119 : decode cX7_take 119 = .ok (.aload_n 0, 1) := by decide +kernel
theorem dX7_take_120 : decode cX7_take 120 = .ok (.getfield 7, 3) := by decide +kernel
theorem dX7_take_123 : decode cX7_take 123 = .ok (.iconst 0, 1) := by decide +kernel
theorem dX7_take_124 : decode cX7_take 124 = .ok (.iaload, 1) := by decide +kernel
theorem dX7_take_125 : decode cX7_take 125 = .ok (.iastore, 1) := by decide +kernel
theorem dX7_take_126 : decode cX7_take 126 = .ok (.aload_n 0, 1) := by decide +kernel
theorem dX7_take_127 : decode cX7_take 127 = .ok (.getfield 7, 3) := by decide +kernel
theorem dX7_take_130 : decode cX7_take 130 = .ok (.bipush 65, 2) := by decide +kernel
theorem dX7_take_132 : decode cX7_take 132 = .ok (.iload_n 3, 1) := by decide +kernel
theorem dX7_take_133 : decode cX7_take 133 = .ok (.iadd, 1) := by decide +kernel
theorem dX7_take_134 : decode cX7_take 134 = .ok (.iconst 0, 1) := by decide +kernel
theorem dX7_take_135 : decode cX7_take 135 = .ok (.iastore, 1) := by decide +kernel
theorem dX7_take_136 : decode cX7_take 136 = .ok (.return_, 1) := by decide +kernel
theorem dX7_isTooBusy_0 : decode cX7_isTooBusy 0 = .ok (.aload_n 0, 1) := by decide +kernel
theorem dX7_isTooBusy_1 : decode cX7_isTooBusy 1 = .ok (.getfield 7, 3) := by decide +kernel

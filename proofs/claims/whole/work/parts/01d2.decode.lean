theorem dX4_noteChoice_0 : decode cX4_noteChoice 0 = .ok (.aload_n 0, 1) := by decide +kernel
theorem dX4_noteChoice_1 : decode cX4_noteChoice 1 = .ok (.invokevirtual 174, 3) := by decide +kernel
theorem dX4_noteChoice_4 : decode cX4_noteChoice 4 = .ok (.ifCond .eq 12, 3) := by decide +kernel
theorem dX4_noteChoice_7 : decode cX4_noteChoice 7 = .ok (.aload_n 0, 1) := by decide +kernel
theorem dX4_noteChoice_8 : decode cX4_noteChoice 8 = .ok (.iload_n 1, 1) := by decide +kernel
theorem dX4_noteChoice_9 : decode cX4_noteChoice 9 = .ok (.iload_n 2, 1) := by decide +kernel
theorem dX4_noteChoice_10 : decode cX4_noteChoice 10 = .ok (.invokevirtual 178, 3) := by decide +kernel
theorem dX4_noteChoice_13 : decode cX4_noteChoice 13 = .ok (.goto 28, 3) := by decide +kernel
theorem dX4_noteChoice_16 : decode cX4_noteChoice 16 = .ok (.aload_n 0, 1) := by decide +kernel
theorem dX4_noteChoice_17 : decode cX4_noteChoice 17 = .ok (.getfield 46, 3) := by decide +kernel
theorem dX4_noteChoice_20 : decode cX4_noteChoice 20 = .ok (.iconst 2, 1) := by decide +kernel
theorem dX4_noteChoice_21 : decode cX4_noteChoice 21 = .ok (.if_icmp .ne 20, 3) := by decide +kernel
theorem dX4_noteChoice_24 : decode cX4_noteChoice 24 = .ok (.aload_n 0, 1) := by decide +kernel
theorem dX4_noteChoice_25 : decode cX4_noteChoice 25 = .ok (.aload_n 0, 1) := by decide +kernel
theorem dX4_noteChoice_26 : decode cX4_noteChoice 26 = .ok (.getfield 61, 3) := by decide +kernel
theorem dX4_noteChoice_29 : decode cX4_noteChoice 29 = .ok (.iconst 1, 1) := by decide +kernel
theorem dX4_noteChoice_30 : decode cX4_noteChoice 30 = .ok (.iadd, 1) := by decide +kernel
theorem dX4_noteChoice_31 : decode cX4_noteChoice 31 = .ok (.aload_n 0, 1) := by decide +kernel
theorem dX4_noteChoice_32 : decode cX4_noteChoice 32 = .ok (.getfield 36, 3) := by decide +kernel
theorem dX4_noteChoice_35 : decode cX4_noteChoice 35 = .ok (.invokestatic 87, 3) := by decide +kernel
theorem dX4_noteChoice_38 : decode cX4_noteChoice 38 = .ok (.putfield 61, 3) := by decide +kernel
theorem dX4_noteChoice_41 : decode cX4_noteChoice 41 = .ok (.return_, 1) := by decide +kernel
theorem dX4_noteInTable_0 : decode cX4_noteInTable 0 = .ok (.aload_n 0, 1) := by decide +kernel
theorem dX4_noteInTable_1 : decode cX4_noteInTable 1 = .ok (.getfield 19, 3) := by decide +kernel
theorem dX4_noteInTable_4 : decode cX4_noteInTable 4 = .ok (.aload_n 0, 1) := by decide +kernel
theorem dX4_noteInTable_5 : decode cX4_noteInTable 5 = .ok (.iload_n 1, 1) := by decide +kernel
theorem dX4_noteInTable_6 : decode cX4_noteInTable 6 = .ok (.invokevirtual 91, 3) := by decide +kernel
theorem dX4_noteInTable_9 : decode cX4_noteInTable 9 = .ok (.aaload, 1) := by decide +kernel
theorem dX4_noteInTable_10 : decode cX4_noteInTable 10 = .ok (.astore_n 3, 1) := by decide +kernel
theorem dX4_noteInTable_11 : decode cX4_noteInTable 11 = .ok (.aload_n 0, 1) := by decide +kernel
theorem dX4_noteInTable_12 : decode cX4_noteInTable 12 = .ok (.aload_n 3, 1) := by decide +kernel
theorem dX4_noteInTable_13 : decode cX4_noteInTable 13 = .ok (.invokevirtual 102, 3) := by decide +kernel
theorem dX4_noteInTable_16 : decode cX4_noteInTable 16 = .ok (.ifCond .ne 34, 3) := by decide +kernel
theorem dX4_noteInTable_19 : decode cX4_noteInTable 19 = .ok (.aload_n 0, 1) := by decide +kernel
theorem dX4_noteInTable_20 : decode cX4_noteInTable 20 = .ok (.getfield 25, 3) := by decide +kernel
theorem dX4_noteInTable_23 : decode cX4_noteInTable 23 = .ok (.iload_n 1, 1) := by decide +kernel
theorem dX4_noteInTable_24 : decode cX4_noteInTable 24 = .ok (.aaload, 1) := by decide +kernel
theorem dX4_noteInTable_25 : decode cX4_noteInTable 25 = .ok (.dup, 1) := by decide +kernel
theorem dX4_noteInTable_26 : decode cX4_noteInTable 26 = .ok (.getfield 181, 3) := by decide +kernel
theorem dX4_noteInTable_29 : decode cX4_noteInTable 29 = .ok (.iconst 1, 1) := by decide +kernel
theorem dX4_noteInTable_30 : decode cX4_noteInTable 30 = .ok (.iadd, 1) := by decide +kernel
theorem dX4_noteInTable_31 : decode cX4_noteInTable 31 = .ok (.putfield 181, 3) := by decide +kernel
theorem dX4_noteInTable_34 : decode cX4_noteInTable 34 = .ok (.aload_n 0, 1) := by decide +kernel
theorem dX4_noteInTable_35 : decode cX4_noteInTable 35 = .ok (.getfield 46, 3) := by decide +kernel
theorem dX4_noteInTable_38 : decode cX4_noteInTable 38 = .ok (.iconst 3, 1) := by decide +kernel
theorem dX4_noteInTable_39 : decode cX4_noteInTable 39 = .ok (.if_icmp .ne 11, 3) := by decide +kernel
theorem dX4_noteInTable_42 : decode cX4_noteInTable 42 = .ok (.aload_n 0, 1) := by decide +kernel
theorem dX4_noteInTable_43 : decode cX4_noteInTable 43 = .ok (.aload_n 0, 1) := by decide +kernel
theorem dX4_noteInTable_44 : decode cX4_noteInTable 44 = .ok (.invokevirtual 146, 3) := by decide +kernel
theorem dX4_noteInTable_47 : decode cX4_noteInTable 47 = .ok (.putfield 58, 3) := by decide +kernel
theorem dX4_noteInTable_50 : decode cX4_noteInTable 50 = .ok (.aload_n 3, 1) := by decide +kernel
theorem dX4_noteInTable_51 : decode cX4_noteInTable 51 = .ok (.iload_n 2, 1) := by decide +kernel
theorem dX4_noteInTable_52 : decode cX4_noteInTable 52 = .ok (.aload_n 0, 1) := by decide +kernel
theorem dX4_noteInTable_53 : decode cX4_noteInTable 53 = .ok (.getfield 43, 3) := by decide +kernel
theorem dX4_noteInTable_56 : decode cX4_noteInTable 56 = .ok (.invokevirtual 184, 3) := by decide +kernel
theorem dX4_noteInTable_59 : decode cX4_noteInTable 59 = .ok (.return_, 1) := by decide +kernel
theorem dX4_wouldOvertake_0 : decode cX4_wouldOvertake 0 = .ok (.aload_n 0, 1) := by decide +kernel
theorem dX4_wouldOvertake_1 : decode cX4_wouldOvertake 1 = .ok (.aload_n 0, 1) := by decide +kernel
theorem dX4_wouldOvertake_2 : decode cX4_wouldOvertake 2 = .ok (.iload_n 1, 1) := by decide +kernel
theorem dX4_wouldOvertake_3 : decode cX4_wouldOvertake 3 = .ok (.invokevirtual 152, 3) := by decide +kernel
theorem dX4_wouldOvertake_6 : decode cX4_wouldOvertake 6 = .ok (.invokevirtual 158, 3) := by decide +kernel
theorem dX4_wouldOvertake_9 : decode cX4_wouldOvertake 9 = .ok (.astore_n 3, 1) := by decide +kernel
theorem dX4_wouldOvertake_10 : decode cX4_wouldOvertake 10 = .ok (.aload_n 3, 1) := by decide +kernel
theorem dX4_wouldOvertake_11 : decode cX4_wouldOvertake 11 = .ok (.aload_n 0, 1) := by decide +kernel
theorem dX4_wouldOvertake_12 : decode cX4_wouldOvertake 12 = .ok (.getfield 43, 3) := by decide +kernel
theorem dX4_wouldOvertake_15 : decode cX4_wouldOvertake 15 = .ok (.invokevirtual 162, 3) := by decide +kernel
theorem dX4_wouldOvertake_18 : decode cX4_wouldOvertake 18 = .ok (.ifCond .ne 33, 3) := by decide +kernel
theorem dX4_wouldOvertake_21 : decode cX4_wouldOvertake 21 = .ok (.aload_n 0, 1) := by decide +kernel
theorem dX4_wouldOvertake_22 : decode cX4_wouldOvertake 22 = .ok (.getfield 25, 3) := by decide +kernel
theorem dX4_wouldOvertake_25 : decode cX4_wouldOvertake 25 = .ok (.iload_n 1, 1) := by decide +kernel
theorem dX4_wouldOvertake_26 : decode cX4_wouldOvertake 26 = .ok (.aaload, 1) := by decide +kernel
theorem dX4_wouldOvertake_27 : decode cX4_wouldOvertake 27 = .ok (.aload_n 0, 1) := by decide +kernel
theorem dX4_wouldOvertake_28 : decode cX4_wouldOvertake 28 = .ok (.getfield 43, 3) := by decide +kernel
theorem dX4_wouldOvertake_31 : decode cX4_wouldOvertake 31 = .ok (.aload_n 3, 1) := by decide +kernel
theorem dX4_wouldOvertake_32 : decode cX4_wouldOvertake 32 = .ok (.aload_n 0, 1) := by decide +kernel
theorem dX4_wouldOvertake_33 : decode cX4_wouldOvertake 33 = .ok (.getfield 43, 3) := by decide +kernel
theorem dX4_wouldOvertake_36 : decode cX4_wouldOvertake 36 = .ok (.iload_n 2, 1) := by decide +kernel
theorem dX4_wouldOvertake_37 : decode cX4_wouldOvertake 37 = .ok (.invokevirtual 106, 3) := by decide +kernel
theorem dX4_wouldOvertake_40 : decode cX4_wouldOvertake 40 = .ok (.iadd, 1) := by decide +kernel
theorem dX4_wouldOvertake_41 : decode cX4_wouldOvertake 41 = .ok (.invokevirtual 187, 3) := by decide +kernel
theorem dX4_wouldOvertake_44 : decode cX4_wouldOvertake 44 = .ok (.ifCond .eq 7, 3) := by decide +kernel
theorem dX4_wouldOvertake_47 : decode cX4_wouldOvertake 47 = .ok (.iconst 1, 1) := by decide +kernel
theorem dX4_wouldOvertake_48 : decode cX4_wouldOvertake 48 = .ok (.goto 4, 3) := by decide +kernel
theorem dX4_wouldOvertake_51 : decode cX4_wouldOvertake 51 = .ok (.iconst 0, 1) := by decide +kernel
theorem dX4_wouldOvertake_52 : decode cX4_wouldOvertake 52 = .ok (.ireturn, 1) := by decide +kernel
theorem dX5_init_0 : decode cX5_init 0 = .ok (.aload_n 0, 1) := by decide +kernel
theorem dX5_init_1 : decode cX5_init 1 = .ok (.invokespecial 3, 3) := by decide +kernel
theorem dX5_init_4 : decode cX5_init 4 = .ok (.aload_n 0, 1) := by decide +kernel
theorem dX5_init_5 : decode cX5_init 5 = .ok (.bipush 120, 2) := by decide +kernel
theorem dX5_init_7 : decode cX5_init 7 = .ok (.newarray .int, 2) := by decide +kernel
theorem dX5_init_9 : decode cX5_init 9 = .ok (.putfield 9, 3) := by decide +kernel
theorem dX5_init_12 : decode cX5_init 12 = .ok (.return_, 1) := by decide +kernel
theorem dX5_isFull_0 : decode cX5_isFull 0 = .ok (.aload_n 0, 1) := by decide +kernel
theorem dX5_isFull_1 : decode cX5_isFull 1 = .ok (.getfield 15, 3) := by decide +kernel
theorem dX5_isFull_4 : decode cX5_isFull 4 = .ok (.bipush 120, 2) := by decide +kernel
theorem dX5_isFull_6 : decode cX5_isFull 6 = .ok (.if_icmp .lt 7, 3) := by decide +kernel
theorem dX5_isFull_9 : decode cX5_isFull 9 = .ok (.iconst 1, 1) := by decide +kernel
theorem dX5_isFull_10 : decode cX5_isFull 10 = .ok (.goto 4, 3) := by decide +kernel
theorem dX5_isFull_13 : decode cX5_isFull 13 = .ok (.iconst 0, 1) := by decide +kernel
theorem dX5_isFull_14 : decode cX5_isFull 14 = .ok (.ireturn, 1) := by decide +kernel
theorem dX5_append_0 : decode cX5_append 0 = .ok (.aload_n 0, 1) := by decide +kernel
theorem dX5_append_1 : decode cX5_append 1 = .ok (.getfield 9, 3) := by decide +kernel
theorem dX5_append_4 : decode cX5_append 4 = .ok (.aload_n 0, 1) := by decide +kernel
theorem dX5_append_5 : decode cX5_append 5 = .ok (.getfield 15, 3) := by decide +kernel
theorem dX5_append_8 : decode cX5_append 8 = .ok (.iload_n 1, 1) := by decide +kernel
theorem dX5_append_9 : decode cX5_append 9 = .ok (.iastore, 1) := by decide +kernel
theorem dX5_append_10 : decode cX5_append 10 = .ok (.aload_n 0, 1) := by decide +kernel
theorem dX5_append_11 : decode cX5_append 11 = .ok (.dup, 1) := by decide +kernel
theorem dX5_append_12 : decode cX5_append 12 = .ok (.getfield 15, 3) := by decide +kernel
theorem dX5_append_15 : decode cX5_append 15 = .ok (.iconst 1, 1) := by decide +kernel
theorem dX5_append_16 : decode cX5_append 16 = .ok (.iadd, 1) := by decide +kernel
theorem dX5_append_17 : decode cX5_append 17 = .ok (.putfield 15, 3) := by decide +kernel
theorem dX5_append_20 : decode cX5_append 20 = .ok (.return_, 1) := by decide +kernel
theorem dX5_clear_0 : decode cX5_clear 0 = .ok (.aload_n 0, 1) := by decide +kernel
theorem dX5_clear_1 : decode cX5_clear 1 = .ok (.iconst 0, 1) := by decide +kernel
theorem dX5_clear_2 : decode cX5_clear 2 = .ok (.putfield 15, 3) := by decide +kernel
theorem dX5_clear_5 : decode cX5_clear 5 = .ok (.return_, 1) := by decide +kernel
theorem dX5_rewind_0 : decode cX5_rewind 0 = .ok (.aload_n 0, 1) := by decide +kernel
theorem dX5_rewind_1 : decode cX5_rewind 1 = .ok (.iconst 0, 1) := by decide +kernel
theorem dX5_rewind_2 : decode cX5_rewind 2 = .ok (.putfield 19, 3) := by decide +kernel
theorem dX5_rewind_5 : decode cX5_rewind 5 = .ok (.aload_n 0, 1) := by decide +kernel
theorem dX5_rewind_6 : decode cX5_rewind 6 = .ok (.invokevirtual 22, 3) := by decide +kernel
theorem dX5_rewind_9 : decode cX5_rewind 9 = .ok (.return_, 1) := by decide +kernel
theorem dX5_errorPosition_0 : decode cX5_errorPosition 0 = .ok (.aload_n 0, 1) := by decide +kernel
theorem dX5_errorPosition_1 : decode cX5_errorPosition 1 = .ok (.invokevirtual 25, 3) := by decide +kernel
theorem dX5_errorPosition_4 : decode cX5_errorPosition 4 = .ok (.aload_n 0, 1) := by decide +kernel
theorem dX5_errorPosition_5 : decode cX5_errorPosition 5 = .ok (.invokevirtual 28, 3) := by decide +kernel
theorem dX5_errorPosition_8 : decode cX5_errorPosition 8 = .ok (.ifCond .ne 7, 3) := by decide +kernel
theorem dX5_errorPosition_11 : decode cX5_errorPosition 11 = .ok (.iconst 1, 1) := by decide +kernel
theorem dX5_errorPosition_12 : decode cX5_errorPosition 12 = .ok (.goto 4, 3) := by decide +kernel
theorem dX5_errorPosition_15 : decode cX5_errorPosition 15 = .ok (.iconst 0, 1) := by decide +kernel
theorem dX5_errorPosition_16 : decode cX5_errorPosition 16 = .ok (.istore_n 1, 1) := by decide +kernel
theorem dX5_errorPosition_17 : decode cX5_errorPosition 17 = .ok (.iconst 0, 1) := by decide +kernel
theorem dX5_errorPosition_18 : decode cX5_errorPosition 18 = .ok (.istore_n 2, 1) := by decide +kernel
theorem dX5_errorPosition_19 : decode cX5_errorPosition 19 = .ok (.iload_n 2, 1) := by decide +kernel
theorem dX5_errorPosition_20 : decode cX5_errorPosition 20 = .ok (.bipush 120, 2) := by decide +kernel
theorem dX5_errorPosition_22 : decode cX5_errorPosition 22 = .ok (.if_icmp .ge 25, 3) := by decide +kernel
theorem dX5_errorPosition_25 : decode cX5_errorPosition 25 = .ok (.iload_n 1, 1) := by decide +kernel
theorem dX5_errorPosition_26 : decode cX5_errorPosition 26 = .ok (.ifCond .eq 21, 3) := by decide +kernel
theorem dX5_errorPosition_29 : decode cX5_errorPosition 29 = .ok (.aload_n 0, 1) := by decide +kernel
theorem dX5_errorPosition_30 : decode cX5_errorPosition 30 = .ok (.invokevirtual 28, 3) := by decide +kernel
theorem dX5_errorPosition_33 : decode cX5_errorPosition 33 = .ok (.ifCond .ne 14, 3) := by decide +kernel
theorem dX5_errorPosition_36 : decode cX5_errorPosition 36 = .ok (.aload_n 0, 1) := by decide +kernel
theorem dX5_errorPosition_37 : decode cX5_errorPosition 37 = .ok (.invokevirtual 32, 3) := by decide +kernel
theorem dX5_errorPosition_40 : decode cX5_errorPosition 40 = .ok (.istore_n 1, 1) := by decide +kernel
theorem dX5_errorPosition_41 : decode cX5_errorPosition 41 = .ok (.iinc 2 1, 3) := by decide +kernel
theorem dX5_errorPosition_44 : decode cX5_errorPosition 44 = .ok (.goto (-25), 3) := by decide +kernel
theorem dX5_errorPosition_47 : decode cX5_errorPosition 47 = .ok (.iload_n 1, 1) := by decide +kernel
theorem dX5_errorPosition_48 : decode cX5_errorPosition 48 = .ok (.ifCond .eq 7, 3) := by decide +kernel
theorem dX5_errorPosition_51 : decode cX5_errorPosition 51 = .ok (.iconst (-1), 1) := by decide +kernel
theorem dX5_errorPosition_52 : decode cX5_errorPosition 52 = .ok (.goto 7, 3) := by decide +kernel
theorem dX5_errorPosition_55 : decode cX5_errorPosition 55 = .ok (.aload_n 0, 1) := by decide +kernel
theorem dX5_errorPosition_56 : decode cX5_errorPosition 56 = .ok (.getfield 19, 3) := by decide +kernel
theorem dX5_errorPosition_59 : decode cX5_errorPosition 59 = .ok (.ireturn, 1) := by decide +kernel
theorem dX5_readItem_0 : decode cX5_readItem 0 = .ok (.aload_n 0, 1) := by decide +kernel
theorem dX5_readItem_1 : decode cX5_readItem 1 = .ok (.aload_n 0, 1) := by decide +kernel
theorem dX5_readItem_2 : decode cX5_readItem 2 = .ok (.bipush 102, 2) := by decide +kernel
theorem dX5_readItem_4 : decode cX5_readItem 4 = .ok (.invokevirtual 35, 3) := by decide +kernel
theorem dX5_readItem_7 : decode cX5_readItem 7 = .ok (.putfield 39, 3) := by decide +kernel
theorem dX5_readItem_10 : decode cX5_readItem 10 = .ok (.aload_n 0, 1) := by decide +kernel
theorem dX5_readItem_11 : decode cX5_readItem 11 = .ok (.getfield 39, 3) := by decide +kernel
theorem dX5_readItem_14 : decode cX5_readItem 14 = .ok (.ifCond .eq 30, 3) := by decide +kernel
theorem dX5_readItem_17 : decode cX5_readItem 17 = .ok (.aload_n 0, 1) := by decide +kernel
theorem dX5_readItem_18 : decode cX5_readItem 18 = .ok (.aload_n 0, 1) := by decide +kernel
theorem dX5_readItem_19 : decode cX5_readItem 19 = .ok (.invokevirtual 43, 3) := by decide +kernel
theorem dX5_readItem_22 : decode cX5_readItem 22 = .ok (.putfield 47, 3) := by decide +kernel
theorem dX5_readItem_25 : decode cX5_readItem 25 = .ok (.aload_n 0, 1) := by decide +kernel
theorem dX5_readItem_26 : decode cX5_readItem 26 = .ok (.getfield 47, 3) := by decide +kernel
theorem dX5_readItem_29 : decode cX5_readItem 29 = .ok (.iconst (-1), 1) := by decide +kernel
theorem dX5_readItem_30 : decode cX5_readItem 30 = .ok (.if_icmp .eq 12, 3) := by decide +kernel
theorem dX5_readItem_33 : decode cX5_readItem 33 = .ok (.aload_n 0, 1) := by decide +kernel
theorem dX5_readItem_34 : decode cX5_readItem 34 = .ok (.bipush 44, 2) := by decide +kernel
theorem dX5_readItem_36 : decode cX5_readItem 36 = .ok (.invokevirtual 35, 3) := by decide +kernel
theorem dX5_readItem_39 : decode cX5_readItem 39 = .ok (.ifCond .ne 16, 3) := by decide +kernel
theorem dX5_readItem_42 : decode cX5_readItem 42 = .ok (.iconst 0, 1) := by decide +kernel
theorem dX5_readItem_43 : decode cX5_readItem 43 = .ok (.ireturn, 1) := by decide +kernel
theorem dX5_readItem_44 : decode cX5_readItem 44 = .ok (.aload_n 0, 1) := by decide +kernel
theorem dX5_readItem_45 : decode cX5_readItem 45 = .ok (.bipush 116, 2) := by decide +kernel
theorem dX5_readItem_47 : decode cX5_readItem 47 = .ok (.invokevirtual 35, 3) := by decide +kernel
theorem dX5_readItem_50 : decode cX5_readItem 50 = .ok (.ifCond .ne 5, 3) := by decide +kernel
theorem dX5_readItem_53 : decode cX5_readItem 53 = .ok (.iconst 0, 1) := by decide +kernel
theorem dX5_readItem_54 : decode cX5_readItem 54 = .ok (.ireturn, 1) := by decide +kernel
theorem dX5_readItem_55 : decode cX5_readItem 55 = .ok (.aload_n 0, 1) := by decide +kernel
theorem dX5_readItem_56 : decode cX5_readItem 56 = .ok (.aload_n 0, 1) := by decide +kernel
theorem dX5_readItem_57 : decode cX5_readItem 57 = .ok (.invokevirtual 43, 3) := by decide +kernel
theorem dX5_readItem_60 : decode cX5_readItem 60 = .ok (.putfield 50, 3) := by decide +kernel
theorem dX5_readItem_63 : decode cX5_readItem 63 = .ok (.aload_n 0, 1) := by decide +kernel
theorem dX5_readItem_64 : decode cX5_readItem 64 = .ok (.getfield 50, 3) := by decide +kernel
theorem dX5_readItem_67 : decode cX5_readItem 67 = .ok (.iconst (-1), 1) := by decide +kernel
theorem dX5_readItem_68 : decode cX5_readItem 68 = .ok (.if_icmp .eq 16, 3) := by decide +kernel
theorem dX5_readItem_71 : decode cX5_readItem 71 = .ok (.aload_n 0, 1) := by decide +kernel
theorem dX5_readItem_72 : decode cX5_readItem 72 = .ok (.bipush 59, 2) := by decide +kernel
theorem dX5_readItem_74 : decode cX5_readItem 74 = .ok (.invokevirtual 35, 3) := by decide +kernel
theorem dX5_readItem_77 : decode cX5_readItem 77 = .ok (.ifCond .eq 7, 3) := by decide +kernel
theorem dX5_readItem_80 : decode cX5_readItem 80 = .ok (.iconst 1, 1) := by decide +kernel
theorem dX5_readItem_81 : decode cX5_readItem 81 = .ok (.goto 4, 3) := by decide +kernel
theorem dX5_readItem_84 : decode cX5_readItem 84 = .ok (.iconst 0, 1) := by decide +kernel
theorem dX5_readItem_85 : decode cX5_readItem 85 = .ok (.ireturn, 1) := by decide +kernel
theorem dX5_readNumber_0 : decode cX5_readNumber 0 = .ok (.aload_n 0, 1) := by decide +kernel
theorem dX5_readNumber_1 : decode cX5_readNumber 1 = .ok (.invokevirtual 53, 3) := by decide +kernel
theorem dX5_readNumber_4 : decode cX5_readNumber 4 = .ok (.ifCond .ne 5, 3) := by decide +kernel
theorem dX5_readNumber_7 : decode cX5_readNumber 7 = .ok (.iconst (-1), 1) := by decide +kernel
theorem dX5_readNumber_8 : decode cX5_readNumber 8 = .ok (.ireturn, 1) := by decide +kernel
theorem dX5_readNumber_9 : decode cX5_readNumber 9 = .ok (.aload_n 0, 1) := by decide +kernel
theorem dX5_readNumber_10 : decode cX5_readNumber 10 = .ok (.invokevirtual 56, 3) := by decide +kernel
theorem dX5_readNumber_13 : decode cX5_readNumber 13 = .ok (.bipush 48, 2) := by decide +kernel
theorem dX5_readNumber_15 : decode cX5_readNumber 15 = .ok (.isub, 1) := by decide +kernel
theorem dX5_readNumber_16 : decode cX5_readNumber 16 = .ok (.istore_n 1, 1) := by decide +kernel
theorem dX5_readNumber_17 : decode cX5_readNumber 17 = .ok (.aload_n 0, 1) := by decide +kernel
theorem dX5_readNumber_18 : decode cX5_readNumber 18 = .ok (.dup, 1) := by decide +kernel
theorem dX5_readNumber_19 : decode cX5_readNumber 19 = .ok (.getfield 19, 3) := by decide +kernel
theorem dX5_readNumber_22 : decode cX5_readNumber 22 = .ok (.iconst 1, 1) := by decide +kernel
theorem dX5_readNumber_23 : decode cX5_readNumber 23 = .ok (.iadd, 1) := by decide +kernel
theorem dX5_readNumber_24 : decode cX5_readNumber 24 = .ok (.putfield 19, 3) := by decide +kernel
theorem dX5_readNumber_27 : decode cX5_readNumber 27 = .ok (.iconst 1, 1) := by decide +kernel
theorem dX5_readNumber_28 : decode cX5_readNumber 28 = .ok (.istore_n 2, 1) := by decide +kernel
theorem dX5_readNumber_29 : decode cX5_readNumber 29 = .ok (.iload_n 2, 1) := by decide +kernel
theorem dX5_readNumber_30 : decode cX5_readNumber 30 = .ok (.iconst 4, 1) := by decide +kernel
theorem dX5_readNumber_31 : decode cX5_readNumber 31 = .ok (.if_icmp .ge 43, 3) := by decide +kernel
theorem dX5_readNumber_34 : decode cX5_readNumber 34 = .ok (.iload_n 1, 1) := by decide +kernel
theorem dX5_readNumber_35 : decode cX5_readNumber 35 = .ok (.ifCond .eq 39, 3) := by decide +kernel
theorem dX5_readNumber_38 : decode cX5_readNumber 38 = .ok (.aload_n 0, 1) := by decide +kernel
theorem dX5_readNumber_39 : decode cX5_readNumber 39 = .ok (.invokevirtual 53, 3) := by decide +kernel
theorem dX5_readNumber_42 : decode cX5_readNumber 42 = .ok (.ifCond .eq 32, 3) := by decide +kernel
theorem dX5_readNumber_45 : decode cX5_readNumber 45 = .ok (.bipush 10, 2) := by decide +kernel
theorem dX5_readNumber_47 : decode cX5_readNumber 47 = .ok (.iload_n 1, 1) := by decide +kernel
theorem dX5_readNumber_48 : decode cX5_readNumber 48 = .ok (.imul, 1) := by decide +kernel
theorem dX5_readNumber_49 : decode cX5_readNumber 49 = .ok (.aload_n 0, 1) := by decide +kernel
theorem dX5_readNumber_50 : decode cX5_readNumber 50 = .ok (.invokevirtual 56, 3) := by decide +kernel
theorem dX5_readNumber_53 : decode cX5_readNumber 53 = .ok (.iadd, 1) := by decide +kernel
theorem dX5_readNumber_54 : decode cX5_readNumber 54 = .ok (.bipush 48, 2) := by decide +kernel
theorem dX5_readNumber_56 : decode cX5_readNumber 56 = .ok (.isub, 1) := by decide +kernel
theorem dX5_readNumber_57 : decode cX5_readNumber 57 = .ok (.istore_n 1, 1) := by decide +kernel
theorem dX5_readNumber_58 : decode cX5_readNumber 58 = .ok (.aload_n 0, 1) := by decide +kernel
theorem dX5_readNumber_59 : decode cX5_readNumber 59 = .ok (.dup, 1) := by decide +kernel
theorem dX5_readNumber_60 : decode cX5_readNumber 60 = .ok (.getfield 19, 3) := by decide +kernel
theorem dX5_readNumber_63 : decode cX5_readNumber 63 = .ok (.iconst 1, 1) := by decide +kernel
theorem dX5_readNumber_64 : decode cX5_readNumber 64 = .ok (.iadd, 1) := by decide +kernel
theorem dX5_readNumber_65 : decode cX5_readNumber 65 = .ok (.putfield 19, 3) := by decide +kernel
theorem dX5_readNumber_68 : decode cX5_readNumber 68 = .ok (.iinc 2 1, 3) := by decide +kernel
theorem dX5_readNumber_71 : decode cX5_readNumber 71 = .ok (.goto (-42), 3) := by decide +kernel
theorem dX5_readNumber_74 : decode cX5_readNumber 74 = .ok (.aload_n 0, 1) := by decide +kernel
theorem dX5_readNumber_75 : decode cX5_readNumber 75 = .ok (.invokevirtual 22, 3) := by decide +kernel
theorem dX5_readNumber_78 : decode cX5_readNumber 78 = .ok (.iload_n 1, 1) := by decide +kernel
theorem dX5_readNumber_79 : decode cX5_readNumber 79 = .ok (.ireturn, 1) := by decide +kernel
theorem dX5_accept_0 : decode cX5_accept 0 = .ok (.aload_n 0, 1) := by decide +kernel
theorem dX5_accept_1 : decode cX5_accept 1 = .ok (.invokevirtual 56, 3) := by decide +kernel
theorem dX5_accept_4 : decode cX5_accept 4 = .ok (.iload_n 1, 1) := by decide +kernel
theorem dX5_accept_5 : decode cX5_accept 5 = .ok (.if_icmp .eq 5, 3) := by decide +kernel
theorem dX5_accept_8 : decode cX5_accept 8 = .ok (.iconst 0, 1) := by decide +kernel
theorem dX5_accept_9 : decode cX5_accept 9 = .ok (.ireturn, 1) := by decide +kernel
theorem dX5_accept_10 : decode cX5_accept 10 = .ok (.aload_n 0, 1) := by decide +kernel
theorem dX5_accept_11 : decode cX5_accept 11 = .ok (.dup, 1) := by decide +kernel
theorem dX5_accept_12 : decode cX5_accept 12 = .ok (.getfield 19, 3) := by decide +kernel
theorem dX5_accept_15 : decode cX5_accept 15 = .ok (.iconst 1, 1) := by decide +kernel
theorem dX5_accept_16 : decode cX5_accept 16 = .ok (.iadd, 1) := by decide +kernel
theorem dX5_accept_17 : decode cX5_accept 17 = .ok (.putfield 19, 3) := by decide +kernel
theorem dX5_accept_20 : decode cX5_accept 20 = .ok (.aload_n 0, 1) := by decide +kernel
theorem dX5_accept_21 : decode cX5_accept 21 = .ok (.invokevirtual 22, 3) := by decide +kernel
theorem dX5_accept_24 : decode cX5_accept 24 = .ok (.iconst 1, 1) := by decide +kernel
theorem dX5_accept_25 : decode cX5_accept 25 = .ok (.ireturn, 1) := by decide +kernel
theorem dX5_skipSpaces_0 : decode cX5_skipSpaces 0 = .ok (.aload_n 0, 1) := by decide +kernel
theorem dX5_skipSpaces_1 : decode cX5_skipSpaces 1 = .ok (.getfield 19, 3) := by decide +kernel
theorem dX5_skipSpaces_4 : decode cX5_skipSpaces 4 = .ok (.aload_n 0, 1) := by decide +kernel
theorem dX5_skipSpaces_5 : decode cX5_skipSpaces 5 = .ok (.getfield 15, 3) := by decide +kernel
theorem dX5_skipSpaces_8 : decode cX5_skipSpaces 8 = .ok (.if_icmp .ge 25, 3) := by decide +kernel
theorem dX5_skipSpaces_11 : decode cX5_skipSpaces 11 = .ok (.aload_n 0, 1) := by decide +kernel
theorem dX5_skipSpaces_12 : decode cX5_skipSpaces 12 = .ok (.invokevirtual 56, 3) := by decide +kernel
theorem dX5_skipSpaces_15 : decode cX5_skipSpaces 15 = .ok (.bipush 32, 2) := by decide +kernel
theorem dX5_skipSpaces_17 : decode cX5_skipSpaces 17 = .ok (.if_icmp .ne 16, 3) := by decide +kernel
theorem dX5_skipSpaces_20 : decode cX5_skipSpaces 20 = .ok (.aload_n 0, 1) := by decide +kernel
theorem dX5_skipSpaces_21 : decode cX5_skipSpaces 21 = .ok (.dup, 1) := by decide +kernel
theorem dX5_skipSpaces_22 : decode cX5_skipSpaces 22 = .ok (.getfield 19, 3) := by decide +kernel
theorem dX5_skipSpaces_25 : decode cX5_skipSpaces 25 = .ok (.iconst 1, 1) := by decide +kernel
theorem dX5_skipSpaces_26 : decode cX5_skipSpaces 26 = .ok (.iadd, 1) := by decide +kernel
theorem dX5_skipSpaces_27 : decode cX5_skipSpaces 27 = .ok (.putfield 19, 3) := by decide +kernel
theorem dX5_skipSpaces_30 : decode cX5_skipSpaces 30 = .ok (.goto (-30), 3) := by decide +kernel
theorem dX5_skipSpaces_33 : decode cX5_skipSpaces 33 = .ok (.return_, 1) := by decide +kernel
theorem dX5_isAtEnd_0 : decode cX5_isAtEnd 0 = .ok (.aload_n 0, 1) := by decide +kernel
theorem dX5_isAtEnd_1 : decode cX5_isAtEnd 1 = .ok (.getfield 19, 3) := by decide +kernel
theorem dX5_isAtEnd_4 : decode cX5_isAtEnd 4 = .ok (.aload_n 0, 1) := by decide +kernel
theorem dX5_isAtEnd_5 : decode cX5_isAtEnd 5 = .ok (.getfield 15, 3) := by decide +kernel
theorem dX5_isAtEnd_8 : decode cX5_isAtEnd 8 = .ok (.if_icmp .lt 7, 3) := by decide +kernel
theorem dX5_isAtEnd_11 : decode cX5_isAtEnd 11 = .ok (.iconst 1, 1) := by decide +kernel
theorem dX5_isAtEnd_12 : decode cX5_isAtEnd 12 = .ok (.goto 4, 3) := by decide +kernel
theorem dX5_isAtEnd_15 : decode cX5_isAtEnd 15 = .ok (.iconst 0, 1) := by decide +kernel
theorem dX5_isAtEnd_16 : decode cX5_isAtEnd 16 = .ok (.ireturn, 1) := by decide +kernel
theorem dX5_isDigitHere_0 : decode cX5_isDigitHere 0 = .ok (.aload_n 0, 1) := by decide +kernel
theorem dX5_isDigitHere_1 : decode cX5_isDigitHere 1 = .ok (.invokevirtual 56, 3) := by decide +kernel
theorem dX5_isDigitHere_4 : decode cX5_isDigitHere 4 = .ok (.bipush 48, 2) := by decide +kernel
theorem dX5_isDigitHere_6 : decode cX5_isDigitHere 6 = .ok (.bipush 57, 2) := by decide +kernel
theorem dX5_isDigitHere_8 : decode cX5_isDigitHere 8 = .ok (.invokestatic 59, 3) := by decide +kernel
theorem dX5_isDigitHere_11 : decode cX5_isDigitHere 11 = .ok (.ireturn, 1) := by decide +kernel
theorem dX5_codeHere_0 : decode cX5_codeHere 0 = .ok (.aload_n 0, 1) := by decide +kernel
theorem dX5_codeHere_1 : decode cX5_codeHere 1 = .ok (.invokevirtual 28, 3) := by decide +kernel
theorem dX5_codeHere_4 : decode cX5_codeHere 4 = .ok (.ifCond .eq 7, 3) := by decide +kernel
theorem dX5_codeHere_7 : decode cX5_codeHere 7 = .ok (.iconst (-1), 1) := by decide +kernel
theorem dX5_codeHere_8 : decode cX5_codeHere 8 = .ok (.goto 12, 3) := by decide +kernel
theorem dX5_codeHere_11 : decode cX5_codeHere 11 = .ok (.aload_n 0, 1) := by decide +kernel
theorem dX5_codeHere_12 : decode cX5_codeHere 12 = .ok (.getfield 9, 3) := by decide +kernel
theorem dX5_codeHere_15 : decode cX5_codeHere 15 = .ok (.aload_n 0, 1) := by decide +kernel
theorem dX5_codeHere_16 : decode cX5_codeHere 16 = .ok (.getfield 19, 3) := by decide +kernel
theorem dX5_codeHere_19 : decode cX5_codeHere 19 = .ok (.iaload, 1) := by decide +kernel
theorem dX5_codeHere_20 : decode cX5_codeHere 20 = .ok (.ireturn, 1) := by decide +kernel
theorem dX6_init_0 : decode cX6_init 0 = .ok (.aload_n 0, 1) := by decide +kernel
theorem dX6_init_1 : decode cX6_init 1 = .ok (.invokespecial 1, 3) := by decide +kernel
theorem dX6_init_4 : decode cX6_init 4 = .ok (.aload_n 0, 1) := by decide +kernel
theorem dX6_init_5 : decode cX6_init 5 = .ok (.new 7, 3) := by decide +kernel
theorem dX6_init_8 : decode cX6_init 8 = .ok (.dup, 1) := by decide +kernel
theorem dX6_init_9 : decode cX6_init 9 = .ok (.invokespecial 9, 3) := by decide +kernel
theorem dX6_init_12 : decode cX6_init 12 = .ok (.putfield 10, 3) := by decide +kernel
theorem dX6_init_15 : decode cX6_init 15 = .ok (.aload_n 0, 1) := by decide +kernel
theorem dX6_init_16 : decode cX6_init 16 = .ok (.new 16, 3) := by decide +kernel
theorem dX6_init_19 : decode cX6_init 19 = .ok (.dup, 1) := by decide +kernel
theorem dX6_init_20 : decode cX6_init 20 = .ok (.invokespecial 18, 3) := by decide +kernel
theorem dX6_init_23 : decode cX6_init 23 = .ok (.putfield 19, 3) := by decide +kernel
theorem dX6_init_26 : decode cX6_init 26 = .ok (.aload_n 0, 1) := by decide +kernel
theorem dX6_init_27 : decode cX6_init 27 = .ok (.iconst 2, 1) := by decide +kernel
theorem dX6_init_28 : decode cX6_init 28 = .ok (.anewarray 7, 3) := by decide +kernel
theorem dX6_init_31 : decode cX6_init 31 = .ok (.putfield 23, 3) := by decide +kernel
theorem dX6_init_34 : decode cX6_init 34 = .ok (.iconst 0, 1) := by decide +kernel
theorem dX6_init_35 : decode cX6_init 35 = .ok (.istore_n 1, 1) := by decide +kernel
theorem dX6_init_36 : decode cX6_init 36 = .ok (.iload_n 1, 1) := by decide +kernel
theorem dX6_init_37 : decode cX6_init 37 = .ok (.iconst 2, 1) := by decide +kernel
theorem dX6_init_38 : decode cX6_init 38 = .ok (.if_icmp .ge 22, 3) := by decide +kernel
theorem dX6_init_41 : decode cX6_init 41 = .ok (.aload_n 0, 1) := by decide +kernel
theorem dX6_init_42 : decode cX6_init 42 = .ok (.getfield 23, 3) := by decide +kernel
theorem dX6_init_45 : decode cX6_init 45 = .ok (.iload_n 1, 1) := by decide +kernel
theorem dX6_init_46 : decode cX6_init 46 = .ok (.new 7, 3) := by decide +kernel
theorem dX6_init_49 : decode cX6_init 49 = .ok (.dup, 1) := by decide +kernel
theorem dX6_init_50 : decode cX6_init 50 = .ok (.invokespecial 9, 3) := by decide +kernel
theorem dX6_init_53 : decode cX6_init 53 = .ok (.aastore, 1) := by decide +kernel
theorem dX6_init_54 : decode cX6_init 54 = .ok (.iinc 1 1, 3) := by decide +kernel
theorem dX6_init_57 : decode cX6_init 57 = .ok (.goto (-21), 3) := by decide +kernel
theorem dX6_init_60 : decode cX6_init 60 = .ok (.aload_n 0, 1) := by decide +kernel
theorem dX6_init_61 : decode cX6_init 61 = .ok (.iconst 2, 1) := by decide +kernel
theorem dX6_init_62 : decode cX6_init 62 = .ok (.newarray .boolean, 2) := by decide +kernel
theorem dX6_init_64 : decode cX6_init 64 = .ok (.putfield 27, 3) := by decide +kernel
theorem dX6_init_67 : decode cX6_init 67 = .ok (.aload_n 0, 1) := by decide +kernel
theorem dX6_init_68 : decode cX6_init 68 = .ok (.new 31, 3) := by decide +kernel
theorem dX6_init_71 : decode cX6_init 71 = .ok (.dup, 1) := by decide +kernel
theorem dX6_init_72 : decode cX6_init 72 = .ok (.invokespecial 33, 3) := by decide +kernel
theorem dX6_init_75 : decode cX6_init 75 = .ok (.putfield 34, 3) := by decide +kernel
theorem dX6_init_78 : decode cX6_init 78 = .ok (.return_, 1) := by decide +kernel
theorem dX6_configure_0 : decode cX6_configure 0 = .ok (.iload_n 1, 1) := by decide +kernel
theorem dX6_configure_1 : decode cX6_configure 1 = .ok (.iconst 2, 1) := by decide +kernel
theorem dX6_configure_2 : decode cX6_configure 2 = .ok (.iconst 4, 1) := by decide +kernel
theorem dX6_configure_3 : decode cX6_configure 3 = .ok (.invokestatic 38, 3) := by decide +kernel
theorem dX6_configure_6 : decode cX6_configure 6 = .ok (.ifCond .eq 13, 3) := by decide +kernel
theorem dX6_configure_9 : decode cX6_configure 9 = .ok (.iload_n 2, 1) := by decide +kernel
theorem dX6_configure_10 : decode cX6_configure 10 = .ok (.iconst 1, 1) := by decide +kernel
theorem dX6_configure_11 : decode cX6_configure 11 = .ok (.bipush 8, 2) := by decide +kernel
theorem dX6_configure_13 : decode cX6_configure 13 = .ok (.invokestatic 38, 3) := by decide +kernel
theorem dX6_configure_16 : decode cX6_configure 16 = .ok (.ifCond .ne 5, 3) := by decide +kernel
theorem dX6_configure_19 : decode cX6_configure 19 = .ok (.iconst (-1), 1) := by decide +kernel
theorem dX6_configure_20 : decode cX6_configure 20 = .ok (.ireturn, 1) := by decide +kernel
theorem dX6_configure_21 : decode cX6_configure 21 = .ok (.aload_n 0, 1) := by decide +kernel
theorem dX6_configure_22 : decode cX6_configure 22 = .ok (.getfield 19, 3) := by decide +kernel
theorem dX6_configure_25 : decode cX6_configure 25 = .ok (.aload_n 0, 1) := by decide +kernel
theorem dX6_configure_26 : decode cX6_configure 26 = .ok (.getfield 10, 3) := by decide +kernel
theorem dX6_configure_29 : decode cX6_configure 29 = .ok (.invokevirtual 42, 3) := by decide +kernel
theorem dX6_configure_32 : decode cX6_configure 32 = .ok (.aload_n 0, 1) := by decide +kernel
theorem dX6_configure_33 : decode cX6_configure 33 = .ok (.getfield 10, 3) := by decide +kernel
theorem dX6_configure_36 : decode cX6_configure 36 = .ok (.iload_n 1, 1) := by decide +kernel
theorem dX6_configure_37 : decode cX6_configure 37 = .ok (.iload_n 2, 1) := by decide +kernel
theorem dX6_configure_38 : decode cX6_configure 38 = .ok (.invokevirtual 46, 3) := by decide +kernel
theorem dX6_configure_41 : decode cX6_configure 41 = .ok (.aload_n 0, 1) := by decide +kernel
theorem dX6_configure_42 : decode cX6_configure 42 = .ok (.getfield 10, 3) := by decide +kernel
theorem dX6_configure_45 : decode cX6_configure 45 = .ok (.iconst 0, 1) := by decide +kernel
theorem dX6_configure_46 : decode cX6_configure 46 = .ok (.invokevirtual 50, 3) := by decide +kernel
theorem dX6_configure_49 : decode cX6_configure 49 = .ok (.ireturn, 1) := by decide +kernel
theorem dX6_setDelay_0 : decode cX6_setDelay 0 = .ok (.aload_n 0, 1) := by decide +kernel
theorem dX6_setDelay_1 : decode cX6_setDelay 1 = .ok (.getfield 10, 3) := by decide +kernel
theorem dX6_setDelay_4 : decode cX6_setDelay 4 = .ok (.iload_n 1, 1) := by decide +kernel
theorem dX6_setDelay_5 : decode cX6_setDelay 5 = .ok (.invokevirtual 54, 3) := by decide +kernel
theorem dX6_setDelay_8 : decode cX6_setDelay 8 = .ok (.ifCond .eq 13, 3) := by decide +kernel
theorem dX6_setDelay_11 : decode cX6_setDelay 11 = .ok (.iload_n 2, 1) := by decide +kernel
theorem dX6_setDelay_12 : decode cX6_setDelay 12 = .ok (.iconst 0, 1) := by decide +kernel
theorem dX6_setDelay_13 : decode cX6_setDelay 13 = .ok (.bipush 50, 2) := by decide +kernel
theorem dX6_setDelay_15 : decode cX6_setDelay 15 = .ok (.invokestatic 38, 3) := by decide +kernel
theorem dX6_setDelay_18 : decode cX6_setDelay 18 = .ok (.ifCond .ne 5, 3) := by decide +kernel
theorem dX6_setDelay_21 : decode cX6_setDelay 21 = .ok (.iconst (-1), 1) := by decide +kernel
theorem dX6_setDelay_22 : decode cX6_setDelay 22 = .ok (.ireturn, 1) := by decide +kernel
theorem dX6_setDelay_23 : decode cX6_setDelay 23 = .ok (.aload_n 0, 1) := by decide +kernel
theorem dX6_setDelay_24 : decode cX6_setDelay 24 = .ok (.getfield 19, 3) := by decide +kernel
theorem dX6_setDelay_27 : decode cX6_setDelay 27 = .ok (.aload_n 0, 1) := by decide +kernel
theorem dX6_setDelay_28 : decode cX6_setDelay 28 = .ok (.getfield 10, 3) := by decide +kernel
theorem dX6_setDelay_31 : decode cX6_setDelay 31 = .ok (.invokevirtual 42, 3) := by decide +kernel
theorem dX6_setDelay_34 : decode cX6_setDelay 34 = .ok (.aload_n 0, 1) := by decide +kernel
theorem dX6_setDelay_35 : decode cX6_setDelay 35 = .ok (.getfield 10, 3) := by decide +kernel
theorem dX6_setDelay_38 : decode cX6_setDelay 38 = .ok (.getfield 58, 3) := by decide +kernel
theorem dX6_setDelay_41 : decode cX6_setDelay 41 = .ok (.iload_n 1, 1) := by decide +kernel
theorem dX6_setDelay_42 : decode cX6_setDelay 42 = .ok (.aaload, 1) := by decide +kernel
theorem dX6_setDelay_43 : decode cX6_setDelay 43 = .ok (.getfield 62, 3) := by decide +kernel
theorem dX6_setDelay_46 : decode cX6_setDelay 46 = .ok (.istore_n 3, 1) := by decide +kernel
theorem dX6_setDelay_47 : decode cX6_setDelay 47 = .ok (.aload_n 0, 1) := by decide +kernel
theorem dX6_setDelay_48 : decode cX6_setDelay 48 = .ok (.getfield 10, 3) := by decide +kernel
theorem dX6_setDelay_51 : decode cX6_setDelay 51 = .ok (.getfield 58, 3) := by decide +kernel
theorem dX6_setDelay_54 : decode cX6_setDelay 54 = .ok (.iload_n 1, 1) := by decide +kernel
theorem dX6_setDelay_55 : decode cX6_setDelay 55 = .ok (.aaload, 1) := by decide +kernel
theorem dX6_setDelay_56 : decode cX6_setDelay 56 = .ok (.iload_n 2, 1) := by decide +kernel
theorem dX6_setDelay_57 : decode cX6_setDelay 57 = .ok (.putfield 62, 3) := by decide +kernel
theorem dX6_setDelay_60 : decode cX6_setDelay 60 = .ok (.iload_n 3, 1) := by decide +kernel
theorem dX6_setDelay_61 : decode cX6_setDelay 61 = .ok (.ireturn, 1) := by decide +kernel
theorem dX6_setRate_0 : decode cX6_setRate 0 = .ok (.aload_n 0, 1) := by decide +kernel
theorem dX6_setRate_1 : decode cX6_setRate 1 = .ok (.getfield 10, 3) := by decide +kernel
theorem dX6_setRate_4 : decode cX6_setRate 4 = .ok (.iload_n 1, 1) := by decide +kernel
theorem dX6_setRate_5 : decode cX6_setRate 5 = .ok (.invokevirtual 54, 3) := by decide +kernel
theorem dX6_setRate_8 : decode cX6_setRate 8 = .ok (.ifCond .eq 13, 3) := by decide +kernel
theorem dX6_setRate_11 : decode cX6_setRate 11 = .ok (.iload_n 2, 1) := by decide +kernel
theorem dX6_setRate_12 : decode cX6_setRate 12 = .ok (.iconst 1, 1) := by decide +kernel
theorem dX6_setRate_13 : decode cX6_setRate 13 = .ok (.bipush 100, 2) := by decide +kernel
theorem dX6_setRate_15 : decode cX6_setRate 15 = .ok (.invokestatic 38, 3) := by decide +kernel
theorem dX6_setRate_18 : decode cX6_setRate 18 = .ok (.ifCond .ne 5, 3) := by decide +kernel
theorem dX6_setRate_21 : decode cX6_setRate 21 = .ok (.iconst (-1), 1) := by decide +kernel
theorem dX6_setRate_22 : decode cX6_setRate 22 = .ok (.ireturn, 1) := by decide +kernel
theorem dX6_setRate_23 : decode cX6_setRate 23 = .ok (.aload_n 0, 1) := by decide +kernel
theorem dX6_setRate_24 : decode cX6_setRate 24 = .ok (.getfield 19, 3) := by decide +kernel
theorem dX6_setRate_27 : decode cX6_setRate 27 = .ok (.aload_n 0, 1) := by decide +kernel
theorem dX6_setRate_28 : decode cX6_setRate 28 = .ok (.getfield 10, 3) := by decide +kernel
theorem dX6_setRate_31 : decode cX6_setRate 31 = .ok (.invokevirtual 42, 3) := by decide +kernel
theorem dX6_setRate_34 : decode cX6_setRate 34 = .ok (.aload_n 0, 1) := by decide +kernel
theorem dX6_setRate_35 : decode cX6_setRate 35 = .ok (.getfield 10, 3) := by decide +kernel
theorem dX6_setRate_38 : decode cX6_setRate 38 = .ok (.getfield 58, 3) := by decide +kernel
theorem dX6_setRate_41 : decode cX6_setRate 41 = .ok (.iload_n 1, 1) := by decide +kernel
theorem dX6_setRate_42 : decode cX6_setRate 42 = .ok (.aaload, 1) := by decide +kernel
theorem dX6_setRate_43 : decode cX6_setRate 43 = .ok (.getfield 68, 3) := by decide +kernel
theorem dX6_setRate_46 : decode cX6_setRate 46 = .ok (.istore_n 3, 1) := by decide +kernel
theorem dX6_setRate_47 : decode cX6_setRate 47 = .ok (.aload_n 0, 1) := by decide +kernel
theorem dX6_setRate_48 : decode cX6_setRate 48 = .ok (.getfield 10, 3) := by decide +kernel
theorem dX6_setRate_51 : decode cX6_setRate 51 = .ok (.getfield 58, 3) := by decide +kernel
theorem dX6_setRate_54 : decode cX6_setRate 54 = .ok (.iload_n 1, 1) := by decide +kernel
theorem dX6_setRate_55 : decode cX6_setRate 55 = .ok (.aaload, 1) := by decide +kernel
theorem dX6_setRate_56 : decode cX6_setRate 56 = .ok (.iload_n 2, 1) := by decide +kernel
theorem dX6_setRate_57 : decode cX6_setRate 57 = .ok (.putfield 68, 3) := by decide +kernel
theorem dX6_setRate_60 : decode cX6_setRate 60 = .ok (.iload_n 3, 1) := by decide +kernel
theorem dX6_setRate_61 : decode cX6_setRate 61 = .ok (.ireturn, 1) := by decide +kernel
theorem dX6_setRemoteLevel_0 : decode cX6_setRemoteLevel 0 = .ok (.aload_n 0, 1) := by decide +kernel
theorem dX6_setRemoteLevel_1 : decode cX6_setRemoteLevel 1 = .ok (.getfield 10, 3) := by decide +kernel
theorem dX6_setRemoteLevel_4 : decode cX6_setRemoteLevel 4 = .ok (.iload_n 1, 1) := by decide +kernel
theorem dX6_setRemoteLevel_5 : decode cX6_setRemoteLevel 5 = .ok (.invokevirtual 54, 3) := by decide +kernel
theorem dX6_setRemoteLevel_8 : decode cX6_setRemoteLevel 8 = .ok (.ifCond .eq 13, 3) := by decide +kernel
theorem dX6_setRemoteLevel_11 : decode cX6_setRemoteLevel 11 = .ok (.iload_n 2, 1) := by decide +kernel
theorem dX6_setRemoteLevel_12 : decode cX6_setRemoteLevel 12 = .ok (.iconst 0, 1) := by decide +kernel
theorem dX6_setRemoteLevel_13 : decode cX6_setRemoteLevel 13 = .ok (.bipush 7, 2) := by decide +kernel
theorem dX6_setRemoteLevel_15 : decode cX6_setRemoteLevel 15 = .ok (.invokestatic 38, 3) := by decide +kernel
theorem dX6_setRemoteLevel_18 : decode cX6_setRemoteLevel 18 = .ok (.ifCond .ne 5, 3) := by decide +kernel
theorem dX6_setRemoteLevel_21 : decode cX6_setRemoteLevel 21 = .ok (.iconst (-1), 1) := by decide +kernel
theorem dX6_setRemoteLevel_22 : decode cX6_setRemoteLevel 22 = .ok (.ireturn, 1) := by decide +kernel
theorem dX6_setRemoteLevel_23 : decode cX6_setRemoteLevel 23 = .ok (.aload_n 0, 1) := by decide +kernel
theorem dX6_setRemoteLevel_24 : decode cX6_setRemoteLevel 24 = .ok (.getfield 19, 3) := by decide +kernel
theorem dX6_setRemoteLevel_27 : decode cX6_setRemoteLevel 27 = .ok (.aload_n 0, 1) := by decide +kernel
theorem dX6_setRemoteLevel_28 : decode cX6_setRemoteLevel 28 = .ok (.getfield 10, 3) := by decide +kernel
theorem dX6_setRemoteLevel_31 : decode cX6_setRemoteLevel 31 = .ok (.invokevirtual 42, 3) := by decide +kernel
theorem dX6_setRemoteLevel_34 : decode cX6_setRemoteLevel 34 = .ok (.aload_n 0, 1) := by decide +kernel
theorem dX6_setRemoteLevel_35 : decode cX6_setRemoteLevel 35 = .ok (.getfield 10, 3) := by decide +kernel
theorem dX6_setRemoteLevel_38 : decode cX6_setRemoteLevel 38 = .ok (.getfield 58, 3) := by decide +kernel
theorem dX6_setRemoteLevel_41 : decode cX6_setRemoteLevel 41 = .ok (.iload_n 1, 1) := by decide +kernel
theorem dX6_setRemoteLevel_42 : decode cX6_setRemoteLevel 42 = .ok (.aaload, 1) := by decide +kernel
theorem dX6_setRemoteLevel_43 : decode cX6_setRemoteLevel 43 = .ok (.getfield 71, 3) := by decide +kernel
theorem dX6_setRemoteLevel_46 : decode cX6_setRemoteLevel 46 = .ok (.istore_n 3, 1) := by decide +kernel
theorem dX6_setRemoteLevel_47 : decode cX6_setRemoteLevel 47 = .ok (.aload_n 0, 1) := by decide +kernel
theorem dX6_setRemoteLevel_48 : decode cX6_setRemoteLevel 48 = .ok (.getfield 10, 3) := by decide +kernel
theorem dX6_setRemoteLevel_51 : decode cX6_setRemoteLevel 51 = .ok (.getfield 58, 3) := by decide +kernel
theorem dX6_setRemoteLevel_54 : decode cX6_setRemoteLevel 54 = .ok (.iload_n 1, 1) := by decide +kernel
theorem dX6_setRemoteLevel_55 : decode cX6_setRemoteLevel 55 = .ok (.aaload, 1) := by decide +kernel
theorem dX6_setRemoteLevel_56 : decode cX6_setRemoteLevel 56 = .ok (.iload_n 2, 1) := by decide +kernel
theorem dX6_setRemoteLevel_57 : decode cX6_setRemoteLevel 57 = .ok (.putfield 71, 3) := by decide +kernel
theorem dX6_setRemoteLevel_60 : decode cX6_setRemoteLevel 60 = .ok (.iload_n 3, 1) := by decide +kernel
theorem dX6_setRemoteLevel_61 : decode cX6_setRemoteLevel 61 = .ok (.ireturn, 1) := by decide +kernel
theorem dX6_setMode_0 : decode cX6_setMode 0 = .ok (.iload_n 1, 1) := by decide +kernel
theorem dX6_setMode_1 : decode cX6_setMode 1 = .ok (.iconst 0, 1) := by decide +kernel
theorem dX6_setMode_2 : decode cX6_setMode 2 = .ok (.iconst 3, 1) := by decide +kernel
theorem dX6_setMode_3 : decode cX6_setMode 3 = .ok (.invokestatic 38, 3) := by decide +kernel
theorem dX6_setMode_6 : decode cX6_setMode 6 = .ok (.ifCond .ne 5, 3) := by decide +kernel
theorem dX6_setMode_9 : decode cX6_setMode 9 = .ok (.iconst (-1), 1) := by decide +kernel
theorem dX6_setMode_10 : decode cX6_setMode 10 = .ok (.ireturn, 1) := by decide +kernel
theorem dX6_setMode_11 : decode cX6_setMode 11 = .ok (.aload_n 0, 1) := by decide +kernel
theorem dX6_setMode_12 : decode cX6_setMode 12 = .ok (.getfield 19, 3) := by decide +kernel
theorem dX6_setMode_15 : decode cX6_setMode 15 = .ok (.aload_n 0, 1) := by decide +kernel
theorem dX6_setMode_16 : decode cX6_setMode 16 = .ok (.getfield 10, 3) := by decide +kernel
theorem dX6_setMode_19 : decode cX6_setMode 19 = .ok (.invokevirtual 42, 3) := by decide +kernel
theorem dX6_setMode_22 : decode cX6_setMode 22 = .ok (.aload_n 0, 1) := by decide +kernel
theorem dX6_setMode_23 : decode cX6_setMode 23 = .ok (.getfield 10, 3) := by decide +kernel
theorem dX6_setMode_26 : decode cX6_setMode 26 = .ok (.getfield 74, 3) := by decide +kernel
theorem dX6_setMode_29 : decode cX6_setMode 29 = .ok (.istore_n 2, 1) := by decide +kernel
theorem dX6_setMode_30 : decode cX6_setMode 30 = .ok (.aload_n 0, 1) := by decide +kernel
theorem dX6_setMode_31 : decode cX6_setMode 31 = .ok (.getfield 10, 3) := by decide +kernel
theorem dX6_setMode_34 : decode cX6_setMode 34 = .ok (.iload_n 1, 1) := by decide +kernel
theorem dX6_setMode_35 : decode cX6_setMode 35 = .ok (.putfield 74, 3) := by decide +kernel
theorem dX6_setMode_38 : decode cX6_setMode 38 = .ok (.iload_n 2, 1) := by decide +kernel
theorem dX6_setMode_39 : decode cX6_setMode 39 = .ok (.ireturn, 1) := by decide +kernel
theorem dX6_setDetection_0 : decode cX6_setDetection 0 = .ok (.iload_n 1, 1) := by decide +kernel
theorem dX6_setDetection_1 : decode cX6_setDetection 1 = .ok (.iconst 0, 1) := by decide +kernel
theorem dX6_setDetection_2 : decode cX6_setDetection 2 = .ok (.iconst 1, 1) := by decide +kernel
theorem dX6_setDetection_3 : decode cX6_setDetection 3 = .ok (.invokestatic 38, 3) := by decide +kernel
theorem dX6_setDetection_6 : decode cX6_setDetection 6 = .ok (.ifCond .ne 5, 3) := by decide +kernel
theorem dX6_setDetection_9 : decode cX6_setDetection 9 = .ok (.iconst (-1), 1) := by decide +kernel
theorem dX6_setDetection_10 : decode cX6_setDetection 10 = .ok (.ireturn, 1) := by decide +kernel
theorem dX6_setDetection_11 : decode cX6_setDetection 11 = .ok (.aload_n 0, 1) := by decide +kernel
theorem dX6_setDetection_12 : decode cX6_setDetection 12 = .ok (.getfield 19, 3) := by decide +kernel
theorem dX6_setDetection_15 : decode cX6_setDetection 15 = .ok (.aload_n 0, 1) := by decide +kernel
theorem dX6_setDetection_16 : decode cX6_setDetection 16 = .ok (.getfield 10, 3) := by decide +kernel
theorem dX6_setDetection_19 : decode cX6_setDetection 19 = .ok (.invokevirtual 42, 3) := by decide +kernel
theorem dX6_setDetection_22 : decode cX6_setDetection 22 = .ok (.aload_n 0, 1) := by decide +kernel
theorem dX6_setDetection_23 : decode cX6_setDetection 23 = .ok (.getfield 10, 3) := by decide +kernel
theorem dX6_setDetection_26 : decode cX6_setDetection 26 = .ok (.getfield 77, 3) := by decide +kernel
theorem dX6_setDetection_29 : decode cX6_setDetection 29 = .ok (.istore_n 2, 1) := by decide +kernel
theorem dX6_setDetection_30 : decode cX6_setDetection 30 = .ok (.aload_n 0, 1) := by decide +kernel
theorem dX6_setDetection_31 : decode cX6_setDetection 31 = .ok (.getfield 10, 3) := by decide +kernel
theorem dX6_setDetection_34 : decode cX6_setDetection 34 = .ok (.iload_n 1, 1) := by decide +kernel
theorem dX6_setDetection_35 : decode cX6_setDetection 35 = .ok (.putfield 77, 3) := by decide +kernel
theorem dX6_setDetection_38 : decode cX6_setDetection 38 = .ok (.iload_n 2, 1) := by decide +kernel
theorem dX6_setDetection_39 : decode cX6_setDetection 39 = .ok (.ireturn, 1) := by decide +kernel
theorem dX6_setGap_0 : decode cX6_setGap 0 = .ok (.iload_n 1, 1) := by decide +kernel
theorem dX6_setGap_1 : decode cX6_setGap 1 = .ok (.iconst 1, 1) := by decide +kernel
theorem dX6_setGap_2 : decode cX6_setGap 2 = .ok (.sipush 200, 3) := by decide +kernel
theorem dX6_setGap_5 : decode cX6_setGap 5 = .ok (.invokestatic 38, 3) := by decide +kernel
theorem dX6_setGap_8 : decode cX6_setGap 8 = .ok (.ifCond .ne 5, 3) := by decide +kernel
theorem dX6_setGap_11 : decode cX6_setGap 11 = .ok (.iconst (-1), 1) := by decide +kernel
theorem dX6_setGap_12 : decode cX6_setGap 12 = .ok (.ireturn, 1) := by decide +kernel
theorem dX6_setGap_13 : decode cX6_setGap 13 = .ok (.aload_n 0, 1) := by decide +kernel
theorem dX6_setGap_14 : decode cX6_setGap 14 = .ok (.getfield 19, 3) := by decide +kernel
theorem dX6_setGap_17 : decode cX6_setGap 17 = .ok (.aload_n 0, 1) := by decide +kernel
theorem dX6_setGap_18 : decode cX6_setGap 18 = .ok (.getfield 10, 3) := by decide +kernel
theorem dX6_setGap_21 : decode cX6_setGap 21 = .ok (.invokevirtual 42, 3) := by decide +kernel
theorem dX6_setGap_24 : decode cX6_setGap 24 = .ok (.aload_n 0, 1) := by decide +kernel
theorem dX6_setGap_25 : decode cX6_setGap 25 = .ok (.getfield 10, 3) := by decide +kernel
theorem dX6_setGap_28 : decode cX6_setGap 28 = .ok (.getfield 80, 3) := by decide +kernel
theorem dX6_setGap_31 : decode cX6_setGap 31 = .ok (.istore_n 2, 1) := by decide +kernel
theorem dX6_setGap_32 : decode cX6_setGap 32 = .ok (.aload_n 0, 1) := by decide +kernel
theorem dX6_setGap_33 : decode cX6_setGap 33 = .ok (.getfield 10, 3) := by decide +kernel
theorem dX6_setGap_36 : decode cX6_setGap 36 = .ok (.iload_n 1, 1) := by decide +kernel
theorem dX6_setGap_37 : decode cX6_setGap 37 = .ok (.putfield 80, 3) := by decide +kernel
theorem dX6_setGap_40 : decode cX6_setGap 40 = .ok (.iload_n 2, 1) := by decide +kernel
theorem dX6_setGap_41 : decode cX6_setGap 41 = .ok (.ireturn, 1) := by decide +kernel
theorem dX6_setShift_0 : decode cX6_setShift 0 = .ok (.iload_n 1, 1) := by decide +kernel
theorem dX6_setShift_1 : decode cX6_setShift 1 = .ok (.iconst 1, 1) := by decide +kernel
theorem dX6_setShift_2 : decode cX6_setShift 2 = .ok (.iconst 4, 1) := by decide +kernel
theorem dX6_setShift_3 : decode cX6_setShift 3 = .ok (.invokestatic 38, 3) := by decide +kernel
theorem dX6_setShift_6 : decode cX6_setShift 6 = .ok (.ifCond .ne 5, 3) := by decide +kernel
theorem dX6_setShift_9 : decode cX6_setShift 9 = .ok (.iconst (-1), 1) := by decide +kernel
theorem dX6_setShift_10 : decode cX6_setShift 10 = .ok (.ireturn, 1) := by decide +kernel
theorem dX6_setShift_11 : decode cX6_setShift 11 = .ok (.aload_n 0, 1) := by decide +kernel
theorem dX6_setShift_12 : decode cX6_setShift 12 = .ok (.getfield 19, 3) := by decide +kernel
theorem dX6_setShift_15 : decode cX6_setShift 15 = .ok (.aload_n 0, 1) := by decide +kernel
theorem dX6_setShift_16 : decode cX6_setShift 16 = .ok (.getfield 10, 3) := by decide +kernel
theorem dX6_setShift_19 : decode cX6_setShift 19 = .ok (.invokevirtual 42, 3) := by decide +kernel
theorem dX6_setShift_22 : decode cX6_setShift 22 = .ok (.aload_n 0, 1) := by decide +kernel
theorem dX6_setShift_23 : decode cX6_setShift 23 = .ok (.getfield 10, 3) := by decide +kernel
theorem dX6_setShift_26 : decode cX6_setShift 26 = .ok (.getfield 83, 3) := by decide +kernel
theorem dX6_setShift_29 : decode cX6_setShift 29 = .ok (.istore_n 2, 1) := by decide +kernel
theorem dX6_setShift_30 : decode cX6_setShift 30 = .ok (.aload_n 0, 1) := by decide +kernel
theorem dX6_setShift_31 : decode cX6_setShift 31 = .ok (.getfield 10, 3) := by decide +kernel
theorem dX6_setShift_34 : decode cX6_setShift 34 = .ok (.iload_n 1, 1) := by decide +kernel
theorem dX6_setShift_35 : decode cX6_setShift 35 = .ok (.putfield 83, 3) := by decide +kernel
theorem dX6_setShift_38 : decode cX6_setShift 38 = .ok (.iload_n 2, 1) := by decide +kernel
theorem dX6_setShift_39 : decode cX6_setShift 39 = .ok (.ireturn, 1) := by decide +kernel
theorem dX6_setGenerator_0 : decode cX6_setGenerator 0 = .ok (.iload_n 1, 1) := by decide +kernel
theorem dX6_setGenerator_1 : decode cX6_setGenerator 1 = .ok (.ifCond .ge 5, 3) := by decide +kernel
theorem dX6_setGenerator_4 : decode cX6_setGenerator 4 = .ok (.iconst (-1), 1) := by decide +kernel
theorem dX6_setGenerator_5 : decode cX6_setGenerator 5 = .ok (.ireturn, 1) := by decide +kernel
theorem dX6_setGenerator_6 : decode cX6_setGenerator 6 = .ok (.aload_n 0, 1) := by decide +kernel
theorem dX6_setGenerator_7 : decode cX6_setGenerator 7 = .ok (.getfield 19, 3) := by decide +kernel
theorem dX6_setGenerator_10 : decode cX6_setGenerator 10 = .ok (.aload_n 0, 1) := by decide +kernel
theorem dX6_setGenerator_11 : decode cX6_setGenerator 11 = .ok (.getfield 10, 3) := by decide +kernel
theorem dX6_setGenerator_14 : decode cX6_setGenerator 14 = .ok (.invokevirtual 42, 3) := by decide +kernel
theorem dX6_setGenerator_17 : decode cX6_setGenerator 17 = .ok (.aload_n 0, 1) := by decide +kernel
theorem dX6_setGenerator_18 : decode cX6_setGenerator 18 = .ok (.getfield 10, 3) := by decide +kernel
theorem dX6_setGenerator_21 : decode cX6_setGenerator 21 = .ok (.getfield 86, 3) := by decide +kernel
theorem dX6_setGenerator_24 : decode cX6_setGenerator 24 = .ok (.istore_n 2, 1) := by decide +kernel
theorem dX6_setGenerator_25 : decode cX6_setGenerator 25 = .ok (.aload_n 0, 1) := by decide +kernel
theorem dX6_setGenerator_26 : decode cX6_setGenerator 26 = .ok (.getfield 10, 3) := by decide +kernel
theorem dX6_setGenerator_29 : decode cX6_setGenerator 29 = .ok (.iload_n 1, 1) := by decide +kernel
theorem dX6_setGenerator_30 : decode cX6_setGenerator 30 = .ok (.putfield 86, 3) := by decide +kernel
theorem dX6_setGenerator_33 : decode cX6_setGenerator 33 = .ok (.iload_n 2, 1) := by decide +kernel
theorem dX6_setGenerator_34 : decode cX6_setGenerator 34 = .ok (.ireturn, 1) := by decide +kernel
theorem dX6_advance_0 : decode cX6_advance 0 = .ok (.iload_n 1, 1) := by decide +kernel
theorem dX6_advance_1 : decode cX6_advance 1 = .ok (.iconst 1, 1) := by decide +kernel
theorem dX6_advance_2 : decode cX6_advance 2 = .ok (.sipush 1000, 3) := by decide +kernel
theorem dX6_advance_5 : decode cX6_advance 5 = .ok (.invokestatic 38, 3) := by decide +kernel
theorem dX6_advance_8 : decode cX6_advance 8 = .ok (.ifCond .ne 5, 3) := by decide +kernel
theorem dX6_advance_11 : decode cX6_advance 11 = .ok (.iconst (-1), 1) := by decide +kernel
theorem dX6_advance_12 : decode cX6_advance 12 = .ok (.ireturn, 1) := by decide +kernel
theorem dX6_advance_13 : decode cX6_advance 13 = .ok (.aload_n 0, 1) := by decide +kernel
theorem dX6_advance_14 : decode cX6_advance 14 = .ok (.getfield 10, 3) := by decide +kernel
theorem dX6_advance_17 : decode cX6_advance 17 = .ok (.iload_n 1, 1) := by decide +kernel
theorem dX6_advance_18 : decode cX6_advance 18 = .ok (.invokevirtual 89, 3) := by decide +kernel
theorem dX6_advance_21 : decode cX6_advance 21 = .ok (.ifCond .ne 6, 3) := by decide +kernel
theorem dX6_advance_24 : decode cX6_advance 24 = .ok (.bipush (-2), 2) := by decide +kernel
theorem dX6_advance_26 : decode cX6_advance 26 = .ok (.ireturn, 1) := by decide +kernel
theorem dX6_advance_27 : decode cX6_advance 27 = .ok (.aload_n 0, 1) := by decide +kernel
theorem dX6_advance_28 : decode cX6_advance 28 = .ok (.getfield 19, 3) := by decide +kernel
theorem dX6_advance_31 : decode cX6_advance 31 = .ok (.aload_n 0, 1) := by decide +kernel
theorem dX6_advance_32 : decode cX6_advance 32 = .ok (.getfield 10, 3) := by decide +kernel
theorem dX6_advance_35 : decode cX6_advance 35 = .ok (.invokevirtual 42, 3) := by decide +kernel
theorem dX6_advance_38 : decode cX6_advance 38 = .ok (.aload_n 0, 1) := by decide +kernel
theorem dX6_advance_39 : decode cX6_advance 39 = .ok (.getfield 10, 3) := by decide +kernel
theorem dX6_advance_42 : decode cX6_advance 42 = .ok (.iload_n 1, 1) := by decide +kernel
theorem dX6_advance_43 : decode cX6_advance 43 = .ok (.invokevirtual 92, 3) := by decide +kernel
theorem dX6_advance_46 : decode cX6_advance 46 = .ok (.aload_n 0, 1) := by decide +kernel
theorem dX6_advance_47 : decode cX6_advance 47 = .ok (.getfield 10, 3) := by decide +kernel
theorem dX6_advance_50 : decode cX6_advance 50 = .ok (.getfield 96, 3) := by decide +kernel
theorem dX6_advance_53 : decode cX6_advance 53 = .ok (.ireturn, 1) := by decide +kernel
theorem dX6_send_0 : decode cX6_send 0 = .ok (.iload_n 1, 1) := by decide +kernel
theorem dX6_send_1 : decode cX6_send 1 = .ok (.invokestatic 99, 3) := by decide +kernel
theorem dX6_send_4 : decode cX6_send 4 = .ok (.ifCond .eq 10, 3) := by decide +kernel
theorem dX6_send_7 : decode cX6_send 7 = .ok (.iload_n 2, 1) := by decide +kernel
theorem dX6_send_8 : decode cX6_send 8 = .ok (.invokestatic 102, 3) := by decide +kernel
theorem dX6_send_11 : decode cX6_send 11 = .ok (.ifCond .ne 5, 3) := by decide +kernel
theorem dX6_send_14 : decode cX6_send 14 = .ok (.iconst (-1), 1) := by decide +kernel
theorem dX6_send_15 : decode cX6_send 15 = .ok (.ireturn, 1) := by decide +kernel
theorem dX6_send_16 : decode cX6_send 16 = .ok (.aload_n 0, 1) := by decide +kernel
theorem dX6_send_17 : decode cX6_send 17 = .ok (.getfield 19, 3) := by decide +kernel
theorem dX6_send_20 : decode cX6_send 20 = .ok (.aload_n 0, 1) := by decide +kernel
theorem dX6_send_21 : decode cX6_send 21 = .ok (.getfield 10, 3) := by decide +kernel
theorem dX6_send_24 : decode cX6_send 24 = .ok (.invokevirtual 42, 3) := by decide +kernel
theorem dX6_send_27 : decode cX6_send 27 = .ok (.aload_n 0, 1) := by decide +kernel
theorem dX6_send_28 : decode cX6_send 28 = .ok (.getfield 10, 3) := by decide +kernel
theorem dX6_send_31 : decode cX6_send 31 = .ok (.iload_n 1, 1) := by decide +kernel
theorem dX6_send_32 : decode cX6_send 32 = .ok (.iload_n 2, 1) := by decide +kernel
theorem dX6_send_33 : decode cX6_send 33 = .ok (.invokevirtual 105, 3) := by decide +kernel
theorem dX6_send_36 : decode cX6_send 36 = .ok (.ireturn, 1) := by decide +kernel
theorem dX6_now_0 : decode cX6_now 0 = .ok (.aload_n 0, 1) := by decide +kernel
theorem dX6_now_1 : decode cX6_now 1 = .ok (.getfield 10, 3) := by decide +kernel
theorem dX6_now_4 : decode cX6_now 4 = .ok (.getfield 96, 3) := by decide +kernel
theorem dX6_now_7 : decode cX6_now 7 = .ok (.ireturn, 1) := by decide +kernel
theorem dX6_entryOf_0 : decode cX6_entryOf 0 = .ok (.iload_n 1, 1) := by decide +kernel
theorem dX6_entryOf_1 : decode cX6_entryOf 1 = .ok (.invokestatic 99, 3) := by decide +kernel
theorem dX6_entryOf_4 : decode cX6_entryOf 4 = .ok (.ifCond .eq 14, 3) := by decide +kernel
theorem dX6_entryOf_7 : decode cX6_entryOf 7 = .ok (.aload_n 0, 1) := by decide +kernel
theorem dX6_entryOf_8 : decode cX6_entryOf 8 = .ok (.getfield 10, 3) := by decide +kernel
theorem dX6_entryOf_11 : decode cX6_entryOf 11 = .ok (.iload_n 1, 1) := by decide +kernel
theorem dX6_entryOf_12 : decode cX6_entryOf 12 = .ok (.invokevirtual 109, 3) := by decide +kernel
theorem dX6_entryOf_15 : decode cX6_entryOf 15 = .ok (.goto 4, 3) := by decide +kernel
theorem dX6_entryOf_18 : decode cX6_entryOf 18 = .ok (.iconst (-1), 1) := by decide +kernel
theorem dX6_entryOf_19 : decode cX6_entryOf 19 = .ok (.ireturn, 1) := by decide +kernel
theorem dX6_isActive_0 : decode cX6_isActive 0 = .ok (.aload_n 0, 1) := by decide +kernel
theorem dX6_isActive_1 : decode cX6_isActive 1 = .ok (.getfield 10, 3) := by decide +kernel
theorem dX6_isActive_4 : decode cX6_isActive 4 = .ok (.iload_n 1, 1) := by decide +kernel
theorem dX6_isActive_5 : decode cX6_isActive 5 = .ok (.invokevirtual 112, 3) := by decide +kernel
theorem dX6_isActive_8 : decode cX6_isActive 8 = .ok (.ifCond .ne 5, 3) := by decide +kernel
theorem dX6_isActive_11 : decode cX6_isActive 11 = .ok (.iconst (-1), 1) := by decide +kernel
theorem dX6_isActive_12 : decode cX6_isActive 12 = .ok (.ireturn, 1) := by decide +kernel
theorem dX6_isActive_13 : decode cX6_isActive 13 = .ok (.aload_n 0, 1) := by decide +kernel
theorem dX6_isActive_14 : decode cX6_isActive 14 = .ok (.getfield 10, 3) := by decide +kernel
theorem dX6_isActive_17 : decode cX6_isActive 17 = .ok (.aload_n 0, 1) := by decide +kernel
theorem dX6_isActive_18 : decode cX6_isActive 18 = .ok (.getfield 10, 3) := by decide +kernel
theorem dX6_isActive_21 : decode cX6_isActive 21 = .ok (.getfield 115, 3) := by decide +kernel
theorem dX6_isActive_24 : decode cX6_isActive 24 = .ok (.iload_n 1, 1) := by decide +kernel
theorem dX6_isActive_25 : decode cX6_isActive 25 = .ok (.aaload, 1) := by decide +kernel
theorem dX6_isActive_26 : decode cX6_isActive 26 = .ok (.invokevirtual 119, 3) := by decide +kernel
theorem dX6_isActive_29 : decode cX6_isActive 29 = .ok (.ifCond .eq 7, 3) := by decide +kernel
theorem dX6_isActive_32 : decode cX6_isActive 32 = .ok (.iconst 1, 1) := by decide +kernel
theorem dX6_isActive_33 : decode cX6_isActive 33 = .ok (.goto 4, 3) := by decide +kernel
theorem dX6_isActive_36 : decode cX6_isActive 36 = .ok (.iconst 0, 1) := by decide +kernel
theorem dX6_isActive_37 : decode cX6_isActive 37 = .ok (.ireturn, 1) := by decide +kernel
theorem dX6_entryPath_0 : decode cX6_entryPath 0 = .ok (.aload_n 0, 1) := by decide +kernel
theorem dX6_entryPath_1 : decode cX6_entryPath 1 = .ok (.getfield 10, 3) := by decide +kernel
theorem dX6_entryPath_4 : decode cX6_entryPath 4 = .ok (.iload_n 1, 1) := by decide +kernel
theorem dX6_entryPath_5 : decode cX6_entryPath 5 = .ok (.invokevirtual 112, 3) := by decide +kernel
theorem dX6_entryPath_8 : decode cX6_entryPath 8 = .ok (.ifCond .eq 18, 3) := by decide +kernel
theorem dX6_entryPath_11 : decode cX6_entryPath 11 = .ok (.aload_n 0, 1) := by decide +kernel
theorem dX6_entryPath_12 : decode cX6_entryPath 12 = .ok (.getfield 10, 3) := by decide +kernel
theorem dX6_entryPath_15 : decode cX6_entryPath 15 = .ok (.getfield 115, 3) := by decide +kernel
theorem dX6_entryPath_18 : decode cX6_entryPath 18 = .ok (.iload_n 1, 1) := by decide +kernel
theorem dX6_entryPath_19 : decode cX6_entryPath 19 = .ok (.aaload, 1) := by decide +kernel
theorem dX6_entryPath_20 : decode cX6_entryPath 20 = .ok (.getfield 123, 3) := by decide +kernel
theorem dX6_entryPath_23 : decode cX6_entryPath 23 = .ok (.goto 4, 3) := by decide +kernel
theorem dX6_entryPath_26 : decode cX6_entryPath 26 = .ok (.iconst (-1), 1) := by decide +kernel
theorem dX6_entryPath_27 : decode cX6_entryPath 27 = .ok (.ireturn, 1) := by decide +kernel
theorem dX6_ageBit_0 : decode cX6_ageBit 0 = .ok (.aload_n 0, 1) := by decide +kernel
theorem dX6_ageBit_1 : decode cX6_ageBit 1 = .ok (.getfield 10, 3) := by decide +kernel
theorem dX6_ageBit_4 : decode cX6_ageBit 4 = .ok (.iload_n 1, 1) := by decide +kernel
theorem dX6_ageBit_5 : decode cX6_ageBit 5 = .ok (.invokevirtual 112, 3) := by decide +kernel
theorem dX6_ageBit_8 : decode cX6_ageBit 8 = .ok (.ifCond .ne 5, 3) := by decide +kernel
theorem dX6_ageBit_11 : decode cX6_ageBit 11 = .ok (.iconst (-1), 1) := by decide +kernel
theorem dX6_ageBit_12 : decode cX6_ageBit 12 = .ok (.ireturn, 1) := by decide +kernel
theorem dX6_ageBit_13 : decode cX6_ageBit 13 = .ok (.aload_n 0, 1) := by decide +kernel
theorem dX6_ageBit_14 : decode cX6_ageBit 14 = .ok (.getfield 10, 3) := by decide +kernel
theorem dX6_ageBit_17 : decode cX6_ageBit 17 = .ok (.getfield 115, 3) := by decide +kernel
theorem dX6_ageBit_20 : decode cX6_ageBit 20 = .ok (.iload_n 1, 1) := by decide +kernel
theorem dX6_ageBit_21 : decode cX6_ageBit 21 = .ok (.aaload, 1) := by decide +kernel
theorem dX6_ageBit_22 : decode cX6_ageBit 22 = .ok (.getfield 128, 3) := by decide +kernel
theorem dX6_ageBit_25 : decode cX6_ageBit 25 = .ok (.ifCond .eq 18, 3) := by decide +kernel
theorem dX6_ageBit_28 : decode cX6_ageBit 28 = .ok (.aload_n 0, 1) := by decide +kernel
theorem dX6_ageBit_29 : decode cX6_ageBit 29 = .ok (.getfield 10, 3) := by decide +kernel
theorem dX6_ageBit_32 : decode cX6_ageBit 32 = .ok (.getfield 115, 3) := by decide +kernel
theorem dX6_ageBit_35 : decode cX6_ageBit 35 = .ok (.iload_n 1, 1) := by decide +kernel
theorem dX6_ageBit_36 : decode cX6_ageBit 36 = .ok (.aaload, 1) := by decide +kernel
theorem dX6_ageBit_37 : decode cX6_ageBit 37 = .ok (.getfield 132, 3) := by decide +kernel
theorem dX6_ageBit_40 : decode cX6_ageBit 40 = .ok (.goto 5, 3) := by decide +kernel
theorem dX6_ageBit_43 : decode cX6_ageBit 43 = .ok (.bipush (-9), 2) := by decide +kernel
theorem dX6_ageBit_45 : decode cX6_ageBit 45 = .ok (.ireturn, 1) := by decide +kernel
theorem dX6_idleTime_0 : decode cX6_idleTime 0 = .ok (.aload_n 0, 1) := by decide +kernel
theorem dX6_idleTime_1 : decode cX6_idleTime 1 = .ok (.getfield 10, 3) := by decide +kernel
theorem dX6_idleTime_4 : decode cX6_idleTime 4 = .ok (.iload_n 1, 1) := by decide +kernel
theorem dX6_idleTime_5 : decode cX6_idleTime 5 = .ok (.invokevirtual 112, 3) := by decide +kernel
theorem dX6_idleTime_8 : decode cX6_idleTime 8 = .ok (.ifCond .ne 5, 3) := by decide +kernel
theorem dX6_idleTime_11 : decode cX6_idleTime 11 = .ok (.iconst (-1), 1) := by decide +kernel
theorem dX6_idleTime_12 : decode cX6_idleTime 12 = .ok (.ireturn, 1) := by decide +kernel
theorem dX6_idleTime_13 : decode cX6_idleTime 13 = .ok (.aload_n 0, 1) := by decide +kernel
theorem dX6_idleTime_14 : decode cX6_idleTime 14 = .ok (.getfield 10, 3) := by decide +kernel
theorem dX6_idleTime_17 : decode cX6_idleTime 17 = .ok (.getfield 115, 3) := by decide +kernel
theorem dX6_idleTime_20 : decode cX6_idleTime 20 = .ok (.iload_n 1, 1) := by decide +kernel
theorem dX6_idleTime_21 : decode cX6_idleTime 21 = .ok (.aaload, 1) := by decide +kernel
theorem dX6_idleTime_22 : decode cX6_idleTime 22 = .ok (.invokevirtual 135, 3) := by decide +kernel
theorem dX6_idleTime_25 : decode cX6_idleTime 25 = .ok (.ifCond .eq 8, 3) := by decide +kernel
theorem dX6_idleTime_28 : decode cX6_idleTime 28 = .ok (.bipush (-9), 2) := by decide +kernel
theorem dX6_idleTime_30 : decode cX6_idleTime 30 = .ok (.goto 23, 3) := by decide +kernel
theorem dX6_idleTime_33 : decode cX6_idleTime 33 = .ok (.aload_n 0, 1) := by decide +kernel
theorem dX6_idleTime_34 : decode cX6_idleTime 34 = .ok (.getfield 10, 3) := by decide +kernel
theorem dX6_idleTime_37 : decode cX6_idleTime 37 = .ok (.getfield 96, 3) := by decide +kernel
theorem dX6_idleTime_40 : decode cX6_idleTime 40 = .ok (.aload_n 0, 1) := by decide +kernel
theorem dX6_idleTime_41 : decode cX6_idleTime 41 = .ok (.getfield 10, 3) := by decide +kernel
theorem dX6_idleTime_44 : decode cX6_idleTime 44 = .ok (.getfield 115, 3) := by decide +kernel
theorem dX6_idleTime_47 : decode cX6_idleTime 47 = .ok (.iload_n 1, 1) := by decide +kernel
theorem dX6_idleTime_48 : decode cX6_idleTime 48 = .ok (.aaload, 1) := by decide +kernel
theorem dX6_idleTime_49 : decode cX6_idleTime 49 = .ok (.getfield 139, 3) := by decide +kernel
theorem dX6_idleTime_52 : decode cX6_idleTime 52 = .ok (.isub, 1) := by decide +kernel
theorem dX6_idleTime_53 : decode cX6_idleTime 53 = .ok (.ireturn, 1) := by decide +kernel
theorem dX6_activeEntries_0 : decode cX6_activeEntries 0 = .ok (.aload_n 0, 1) := by decide +kernel
theorem dX6_activeEntries_1 : decode cX6_activeEntries 1 = .ok (.getfield 10, 3) := by decide +kernel
theorem dX6_activeEntries_4 : decode cX6_activeEntries 4 = .ok (.invokevirtual 142, 3) := by decide +kernel
theorem dX6_activeEntries_7 : decode cX6_activeEntries 7 = .ok (.ireturn, 1) := by decide +kernel
theorem dX6_load_0 : decode cX6_load 0 = .ok (.aload_n 0, 1) := by decide +kernel
theorem dX6_load_1 : decode cX6_load 1 = .ok (.getfield 10, 3) := by decide +kernel
theorem dX6_load_4 : decode cX6_load 4 = .ok (.iload_n 1, 1) := by decide +kernel
theorem dX6_load_5 : decode cX6_load 5 = .ok (.invokevirtual 54, 3) := by decide +kernel
theorem dX6_load_8 : decode cX6_load 8 = .ok (.ifCond .eq 18, 3) := by decide +kernel
theorem dX6_load_11 : decode cX6_load 11 = .ok (.aload_n 0, 1) := by decide +kernel
theorem dX6_load_12 : decode cX6_load 12 = .ok (.getfield 10, 3) := by decide +kernel
theorem dX6_load_15 : decode cX6_load 15 = .ok (.getfield 58, 3) := by decide +kernel
theorem dX6_load_18 : decode cX6_load 18 = .ok (.iload_n 1, 1) := by decide +kernel
theorem dX6_load_19 : decode cX6_load 19 = .ok (.aaload, 1) := by decide +kernel
theorem dX6_load_20 : decode cX6_load 20 = .ok (.getfield 146, 3) := by decide +kernel
theorem dX6_load_23 : decode cX6_load 23 = .ok (.goto 4, 3) := by decide +kernel
theorem dX6_load_26 : decode cX6_load 26 = .ok (.iconst (-1), 1) := by decide +kernel
theorem dX6_load_27 : decode cX6_load 27 = .ok (.ireturn, 1) := by decide +kernel
theorem dX6_metric_0 : decode cX6_metric 0 = .ok (.aload_n 0, 1) := by decide +kernel
theorem dX6_metric_1 : decode cX6_metric 1 = .ok (.getfield 10, 3) := by decide +kernel
theorem dX6_metric_4 : decode cX6_metric 4 = .ok (.iload_n 1, 1) := by decide +kernel
theorem dX6_metric_5 : decode cX6_metric 5 = .ok (.invokevirtual 54, 3) := by decide +kernel
theorem dX6_metric_8 : decode cX6_metric 8 = .ok (.ifCond .eq 18, 3) := by decide +kernel
theorem dX6_metric_11 : decode cX6_metric 11 = .ok (.aload_n 0, 1) := by decide +kernel
theorem dX6_metric_12 : decode cX6_metric 12 = .ok (.getfield 10, 3) := by decide +kernel
theorem dX6_metric_15 : decode cX6_metric 15 = .ok (.getfield 58, 3) := by decide +kernel
theorem dX6_metric_18 : decode cX6_metric 18 = .ok (.iload_n 1, 1) := by decide +kernel
theorem dX6_metric_19 : decode cX6_metric 19 = .ok (.aaload, 1) := by decide +kernel
theorem dX6_metric_20 : decode cX6_metric 20 = .ok (.invokevirtual 149, 3) := by decide +kernel
theorem dX6_metric_23 : decode cX6_metric 23 = .ok (.goto 4, 3) := by decide +kernel
theorem dX6_metric_26 : decode cX6_metric 26 = .ok (.iconst (-1), 1) := by decide +kernel
theorem dX6_metric_27 : decode cX6_metric 27 = .ok (.ireturn, 1) := by decide +kernel
theorem dX6_busyTime_0 : decode cX6_busyTime 0 = .ok (.aload_n 0, 1) := by decide +kernel
theorem dX6_busyTime_1 : decode cX6_busyTime 1 = .ok (.getfield 10, 3) := by decide +kernel
theorem dX6_busyTime_4 : decode cX6_busyTime 4 = .ok (.iload_n 1, 1) := by decide +kernel
theorem dX6_busyTime_5 : decode cX6_busyTime 5 = .ok (.invokevirtual 54, 3) := by decide +kernel
theorem dX6_busyTime_8 : decode cX6_busyTime 8 = .ok (.ifCond .eq 25, 3) := by decide +kernel
theorem dX6_busyTime_11 : decode cX6_busyTime 11 = .ok (.aload_n 0, 1) := by decide +kernel
theorem dX6_busyTime_12 : decode cX6_busyTime 12 = .ok (.getfield 10, 3) := by decide +kernel
theorem dX6_busyTime_15 : decode cX6_busyTime 15 = .ok (.getfield 58, 3) := by decide +kernel
theorem dX6_busyTime_18 : decode cX6_busyTime 18 = .ok (.iload_n 1, 1) := by decide +kernel
theorem dX6_busyTime_19 : decode cX6_busyTime 19 = .ok (.aaload, 1) := by decide +kernel
theorem dX6_busyTime_20 : decode cX6_busyTime 20 = .ok (.aload_n 0, 1) := by decide +kernel
theorem dX6_busyTime_21 : decode cX6_busyTime 21 = .ok (.getfield 10, 3) := by decide +kernel
theorem dX6_busyTime_24 : decode cX6_busyTime 24 = .ok (.getfield 96, 3) := by decide +kernel
theorem dX6_busyTime_27 : decode cX6_busyTime 27 = .ok (.invokevirtual 152, 3) := by decide +kernel
theorem dX6_busyTime_30 : decode cX6_busyTime 30 = .ok (.goto 4, 3) := by decide +kernel
theorem dX6_busyTime_33 : decode cX6_busyTime 33 = .ok (.iconst (-1), 1) := by decide +kernel
theorem dX6_busyTime_34 : decode cX6_busyTime 34 = .ok (.ireturn, 1) := by decide +kernel
theorem dX6_latency_0 : decode cX6_latency 0 = .ok (.aload_n 0, 1) := by decide +kernel
theorem dX6_latency_1 : decode cX6_latency 1 = .ok (.getfield 10, 3) := by decide +kernel
theorem dX6_latency_4 : decode cX6_latency 4 = .ok (.iload_n 1, 1) := by decide +kernel
theorem dX6_latency_5 : decode cX6_latency 5 = .ok (.invokevirtual 54, 3) := by decide +kernel
theorem dX6_latency_8 : decode cX6_latency 8 = .ok (.ifCond .eq 10, 3) := by decide +kernel
theorem dX6_latency_11 : decode cX6_latency 11 = .ok (.iload_n 2, 1) := by decide +kernel
theorem dX6_latency_12 : decode cX6_latency 12 = .ok (.invokestatic 102, 3) := by decide +kernel
theorem dX6_latency_15 : decode cX6_latency 15 = .ok (.ifCond .ne 5, 3) := by decide +kernel
theorem dX6_latency_18 : decode cX6_latency 18 = .ok (.iconst (-1), 1) := by decide +kernel
theorem dX6_latency_19 : decode cX6_latency 19 = .ok (.ireturn, 1) := by decide +kernel
theorem dX6_latency_20 : decode cX6_latency 20 = .ok (.aload_n 0, 1) := by decide +kernel
theorem dX6_latency_21 : decode cX6_latency 21 = .ok (.getfield 10, 3) := by decide +kernel
theorem dX6_latency_24 : decode cX6_latency 24 = .ok (.getfield 58, 3) := by decide +kernel
theorem dX6_latency_27 : decode cX6_latency 27 = .ok (.iload_n 1, 1) := by decide +kernel
theorem dX6_latency_28 : decode cX6_latency 28 = .ok (.aaload, 1) := by decide +kernel
theorem dX6_latency_29 : decode cX6_latency 29 = .ok (.aload_n 0, 1) := by decide +kernel
theorem dX6_latency_30 : decode cX6_latency 30 = .ok (.getfield 10, 3) := by decide +kernel
theorem dX6_latency_33 : decode cX6_latency 33 = .ok (.getfield 96, 3) := by decide +kernel
theorem dX6_latency_36 : decode cX6_latency 36 = .ok (.iload_n 2, 1) := by decide +kernel
theorem dX6_latency_37 : decode cX6_latency 37 = .ok (.invokevirtual 155, 3) := by decide +kernel
theorem dX6_latency_40 : decode cX6_latency 40 = .ok (.ireturn, 1) := by decide +kernel
theorem dX6_safeGap_0 : decode cX6_safeGap 0 = .ok (.iload_n 1, 1) := by decide +kernel
theorem dX6_safeGap_1 : decode cX6_safeGap 1 = .ok (.invokestatic 102, 3) := by decide +kernel
theorem dX6_safeGap_4 : decode cX6_safeGap 4 = .ok (.ifCond .eq 14, 3) := by decide +kernel
theorem dX6_safeGap_7 : decode cX6_safeGap 7 = .ok (.aload_n 0, 1) := by decide +kernel
theorem dX6_safeGap_8 : decode cX6_safeGap 8 = .ok (.getfield 10, 3) := by decide +kernel
theorem dX6_safeGap_11 : decode cX6_safeGap 11 = .ok (.iload_n 1, 1) := by decide +kernel
theorem dX6_safeGap_12 : decode cX6_safeGap 12 = .ok (.invokevirtual 158, 3) := by decide +kernel
theorem dX6_safeGap_15 : decode cX6_safeGap 15 = .ok (.goto 4, 3) := by decide +kernel
theorem dX6_safeGap_18 : decode cX6_safeGap 18 = .ok (.iconst (-1), 1) := by decide +kernel
theorem dX6_safeGap_19 : decode cX6_safeGap 19 = .ok (.ireturn, 1) := by decide +kernel
theorem dX6_packets_0 : decode cX6_packets 0 = .ok (.aload_n 0, 1) := by decide +kernel
theorem dX6_packets_1 : decode cX6_packets 1 = .ok (.getfield 10, 3) := by decide +kernel
theorem dX6_packets_4 : decode cX6_packets 4 = .ok (.iload_n 1, 1) := by decide +kernel
theorem dX6_packets_5 : decode cX6_packets 5 = .ok (.invokevirtual 54, 3) := by decide +kernel
theorem dX6_packets_8 : decode cX6_packets 8 = .ok (.ifCond .eq 18, 3) := by decide +kernel
theorem dX6_packets_11 : decode cX6_packets 11 = .ok (.aload_n 0, 1) := by decide +kernel
theorem dX6_packets_12 : decode cX6_packets 12 = .ok (.getfield 10, 3) := by decide +kernel
theorem dX6_packets_15 : decode cX6_packets 15 = .ok (.getfield 58, 3) := by decide +kernel
theorem dX6_packets_18 : decode cX6_packets 18 = .ok (.iload_n 1, 1) := by decide +kernel
theorem dX6_packets_19 : decode cX6_packets 19 = .ok (.aaload, 1) := by decide +kernel
theorem dX6_packets_20 : decode cX6_packets 20 = .ok (.getfield 161, 3) := by decide +kernel
theorem dX6_packets_23 : decode cX6_packets 23 = .ok (.goto 4, 3) := by decide +kernel
theorem dX6_packets_26 : decode cX6_packets 26 = .ok (.iconst (-1), 1) := by decide +kernel
theorem dX6_packets_27 : decode cX6_packets 27 = .ok (.ireturn, 1) := by decide +kernel
theorem dX6_bytes_0 : decode cX6_bytes 0 = .ok (.aload_n 0, 1) := by decide +kernel
theorem dX6_bytes_1 : decode cX6_bytes 1 = .ok (.getfield 10, 3) := by decide +kernel
theorem dX6_bytes_4 : decode cX6_bytes 4 = .ok (.iload_n 1, 1) := by decide +kernel
theorem dX6_bytes_5 : decode cX6_bytes 5 = .ok (.invokevirtual 54, 3) := by decide +kernel
theorem dX6_bytes_8 : decode cX6_bytes 8 = .ok (.ifCond .eq 18, 3) := by decide +kernel
theorem dX6_bytes_11 : decode cX6_bytes 11 = .ok (.aload_n 0, 1) := by decide +kernel
theorem dX6_bytes_12 : decode cX6_bytes 12 = .ok (.getfield 10, 3) := by decide +kernel
theorem dX6_bytes_15 : decode cX6_bytes 15 = .ok (.getfield 58, 3) := by decide +kernel
theorem dX6_bytes_18 : decode cX6_bytes 18 = .ok (.iload_n 1, 1) := by decide +kernel
theorem dX6_bytes_19 : decode cX6_bytes 19 = .ok (.aaload, 1) := by decide +kernel
theorem dX6_bytes_20 : decode cX6_bytes 20 = .ok (.getfield 164, 3) := by decide +kernel
theorem dX6_bytes_23 : decode cX6_bytes 23 = .ok (.goto 4, 3) := by decide +kernel
theorem dX6_bytes_26 : decode cX6_bytes 26 = .ok (.iconst (-1), 1) := by decide +kernel
theorem dX6_bytes_27 : decode cX6_bytes 27 = .ok (.ireturn, 1) := by decide +kernel
theorem dX6_drops_0 : decode cX6_drops 0 = .ok (.aload_n 0, 1) := by decide +kernel
theorem dX6_drops_1 : decode cX6_drops 1 = .ok (.getfield 10, 3) := by decide +kernel
theorem dX6_drops_4 : decode cX6_drops 4 = .ok (.iload_n 1, 1) := by decide +kernel
theorem dX6_drops_5 : decode cX6_drops 5 = .ok (.invokevirtual 54, 3) := by decide +kernel
theorem dX6_drops_8 : decode cX6_drops 8 = .ok (.ifCond .eq 18, 3) := by decide +kernel
theorem dX6_drops_11 : decode cX6_drops 11 = .ok (.aload_n 0, 1) := by decide +kernel
theorem dX6_drops_12 : decode cX6_drops 12 = .ok (.getfield 10, 3) := by decide +kernel
theorem dX6_drops_15 : decode cX6_drops 15 = .ok (.getfield 58, 3) := by decide +kernel
theorem dX6_drops_18 : decode cX6_drops 18 = .ok (.iload_n 1, 1) := by decide +kernel
theorem dX6_drops_19 : decode cX6_drops 19 = .ok (.aaload, 1) := by decide +kernel
theorem dX6_drops_20 : decode cX6_drops 20 = .ok (.getfield 167, 3) := by decide +kernel
theorem dX6_drops_23 : decode cX6_drops 23 = .ok (.goto 4, 3) := by decide +kernel
theorem dX6_drops_26 : decode cX6_drops 26 = .ok (.iconst (-1), 1) := by decide +kernel
theorem dX6_drops_27 : decode cX6_drops 27 = .ok (.ireturn, 1) := by decide +kernel
theorem dX6_imbalance_0 : decode cX6_imbalance 0 = .ok (.aload_n 0, 1) := by decide +kernel
theorem dX6_imbalance_1 : decode cX6_imbalance 1 = .ok (.getfield 10, 3) := by decide +kernel
theorem dX6_imbalance_4 : decode cX6_imbalance 4 = .ok (.invokevirtual 170, 3) := by decide +kernel
theorem dX6_imbalance_7 : decode cX6_imbalance 7 = .ok (.ireturn, 1) := by decide +kernel
theorem dX6_nextPath_0 : decode cX6_nextPath 0 = .ok (.iload_n 1, 1) := by decide +kernel
theorem dX6_nextPath_1 : decode cX6_nextPath 1 = .ok (.invokestatic 99, 3) := by decide +kernel
theorem dX6_nextPath_4 : decode cX6_nextPath 4 = .ok (.ifCond .eq 14, 3) := by decide +kernel
theorem dX6_nextPath_7 : decode cX6_nextPath 7 = .ok (.aload_n 0, 1) := by decide +kernel
theorem dX6_nextPath_8 : decode cX6_nextPath 8 = .ok (.getfield 10, 3) := by decide +kernel
theorem dX6_nextPath_11 : decode cX6_nextPath 11 = .ok (.iload_n 1, 1) := by decide +kernel
theorem dX6_nextPath_12 : decode cX6_nextPath 12 = .ok (.invokevirtual 173, 3) := by decide +kernel
theorem dX6_nextPath_15 : decode cX6_nextPath 15 = .ok (.goto 4, 3) := by decide +kernel
theorem dX6_nextPath_18 : decode cX6_nextPath 18 = .ok (.iconst (-1), 1) := by decide +kernel
theorem dX6_nextPath_19 : decode cX6_nextPath 19 = .ok (.ireturn, 1) := by decide +kernel
theorem dX6_wouldReorder_0 : decode cX6_wouldReorder 0 = .ok (.iload_n 1, 1) := by decide +kernel
theorem dX6_wouldReorder_1 : decode cX6_wouldReorder 1 = .ok (.invokestatic 99, 3) := by decide +kernel
theorem dX6_wouldReorder_4 : decode cX6_wouldReorder 4 = .ok (.ifCond .eq 10, 3) := by decide +kernel
theorem dX6_wouldReorder_7 : decode cX6_wouldReorder 7 = .ok (.iload_n 2, 1) := by decide +kernel
theorem dX6_wouldReorder_8 : decode cX6_wouldReorder 8 = .ok (.invokestatic 102, 3) := by decide +kernel
theorem dX6_wouldReorder_11 : decode cX6_wouldReorder 11 = .ok (.ifCond .ne 5, 3) := by decide +kernel
theorem dX6_wouldReorder_14 : decode cX6_wouldReorder 14 = .ok (.iconst (-1), 1) := by decide +kernel
theorem dX6_wouldReorder_15 : decode cX6_wouldReorder 15 = .ok (.ireturn, 1) := by decide +kernel
theorem dX6_wouldReorder_16 : decode cX6_wouldReorder 16 = .ok (.aload_n 0, 1) := by decide +kernel
theorem dX6_wouldReorder_17 : decode cX6_wouldReorder 17 = .ok (.getfield 10, 3) := by decide +kernel
theorem dX6_wouldReorder_20 : decode cX6_wouldReorder 20 = .ok (.iload_n 1, 1) := by decide +kernel
theorem dX6_wouldReorder_21 : decode cX6_wouldReorder 21 = .ok (.iload_n 2, 1) := by decide +kernel
theorem dX6_wouldReorder_22 : decode cX6_wouldReorder 22 = .ok (.invokevirtual 176, 3) := by decide +kernel
theorem dX6_wouldReorder_25 : decode cX6_wouldReorder 25 = .ok (.ifCond .eq 7, 3) := by decide +kernel
theorem dX6_wouldReorder_28 : decode cX6_wouldReorder 28 = .ok (.iconst 1, 1) := by decide +kernel
theorem dX6_wouldReorder_29 : decode cX6_wouldReorder 29 = .ok (.goto 4, 3) := by decide +kernel
theorem dX6_wouldReorder_32 : decode cX6_wouldReorder 32 = .ok (.iconst 0, 1) := by decide +kernel
theorem dX6_wouldReorder_33 : decode cX6_wouldReorder 33 = .ok (.ireturn, 1) := by decide +kernel
theorem dX6_flowlets_0 : decode cX6_flowlets 0 = .ok (.iload_n 1, 1) := by decide +kernel
theorem dX6_flowlets_1 : decode cX6_flowlets 1 = .ok (.invokestatic 99, 3) := by decide +kernel
theorem dX6_flowlets_4 : decode cX6_flowlets 4 = .ok (.ifCond .eq 18, 3) := by decide +kernel
theorem dX6_flowlets_7 : decode cX6_flowlets 7 = .ok (.aload_n 0, 1) := by decide +kernel
theorem dX6_flowlets_8 : decode cX6_flowlets 8 = .ok (.getfield 10, 3) := by decide +kernel
theorem dX6_flowlets_11 : decode cX6_flowlets 11 = .ok (.getfield 180, 3) := by decide +kernel
theorem dX6_flowlets_14 : decode cX6_flowlets 14 = .ok (.iload_n 1, 1) := by decide +kernel
theorem dX6_flowlets_15 : decode cX6_flowlets 15 = .ok (.aaload, 1) := by decide +kernel
theorem dX6_flowlets_16 : decode cX6_flowlets 16 = .ok (.getfield 184, 3) := by decide +kernel
theorem dX6_flowlets_19 : decode cX6_flowlets 19 = .ok (.goto 4, 3) := by decide +kernel
theorem dX6_flowlets_22 : decode cX6_flowlets 22 = .ok (.iconst (-1), 1) := by decide +kernel
theorem dX6_flowlets_23 : decode cX6_flowlets 23 = .ok (.ireturn, 1) := by decide +kernel
theorem dX6_pathChanges_0 : decode cX6_pathChanges 0 = .ok (.iload_n 1, 1) := by decide +kernel
theorem dX6_pathChanges_1 : decode cX6_pathChanges 1 = .ok (.invokestatic 99, 3) := by decide +kernel
theorem dX6_pathChanges_4 : decode cX6_pathChanges 4 = .ok (.ifCond .eq 18, 3) := by decide +kernel
theorem dX6_pathChanges_7 : decode cX6_pathChanges 7 = .ok (.aload_n 0, 1) := by decide +kernel
theorem dX6_pathChanges_8 : decode cX6_pathChanges 8 = .ok (.getfield 10, 3) := by decide +kernel
theorem dX6_pathChanges_11 : decode cX6_pathChanges 11 = .ok (.getfield 180, 3) := by decide +kernel
theorem dX6_pathChanges_14 : decode cX6_pathChanges 14 = .ok (.iload_n 1, 1) := by decide +kernel
theorem dX6_pathChanges_15 : decode cX6_pathChanges 15 = .ok (.aaload, 1) := by decide +kernel
theorem dX6_pathChanges_16 : decode cX6_pathChanges 16 = .ok (.getfield 189, 3) := by decide +kernel
theorem dX6_pathChanges_19 : decode cX6_pathChanges 19 = .ok (.goto 4, 3) := by decide +kernel
theorem dX6_pathChanges_22 : decode cX6_pathChanges 22 = .ok (.iconst (-1), 1) := by decide +kernel
theorem dX6_pathChanges_23 : decode cX6_pathChanges 23 = .ok (.ireturn, 1) := by decide +kernel
theorem dX6_reordered_0 : decode cX6_reordered 0 = .ok (.iload_n 1, 1) := by decide +kernel
theorem dX6_reordered_1 : decode cX6_reordered 1 = .ok (.invokestatic 99, 3) := by decide +kernel
theorem dX6_reordered_4 : decode cX6_reordered 4 = .ok (.ifCond .eq 18, 3) := by decide +kernel
theorem dX6_reordered_7 : decode cX6_reordered 7 = .ok (.aload_n 0, 1) := by decide +kernel
theorem dX6_reordered_8 : decode cX6_reordered 8 = .ok (.getfield 10, 3) := by decide +kernel
theorem dX6_reordered_11 : decode cX6_reordered 11 = .ok (.getfield 180, 3) := by decide +kernel
theorem dX6_reordered_14 : decode cX6_reordered 14 = .ok (.iload_n 1, 1) := by decide +kernel
theorem dX6_reordered_15 : decode cX6_reordered 15 = .ok (.aaload, 1) := by decide +kernel
theorem dX6_reordered_16 : decode cX6_reordered 16 = .ok (.getfield 192, 3) := by decide +kernel
theorem dX6_reordered_19 : decode cX6_reordered 19 = .ok (.goto 4, 3) := by decide +kernel
theorem dX6_reordered_22 : decode cX6_reordered 22 = .ok (.iconst (-1), 1) := by decide +kernel
theorem dX6_reordered_23 : decode cX6_reordered 23 = .ok (.ireturn, 1) := by decide +kernel
theorem dX6_lastArrival_0 : decode cX6_lastArrival 0 = .ok (.iload_n 1, 1) := by decide +kernel
theorem dX6_lastArrival_1 : decode cX6_lastArrival 1 = .ok (.invokestatic 99, 3) := by decide +kernel
theorem dX6_lastArrival_4 : decode cX6_lastArrival 4 = .ok (.ifCond .eq 18, 3) := by decide +kernel
theorem dX6_lastArrival_7 : decode cX6_lastArrival 7 = .ok (.aload_n 0, 1) := by decide +kernel
theorem dX6_lastArrival_8 : decode cX6_lastArrival 8 = .ok (.getfield 10, 3) := by decide +kernel
theorem dX6_lastArrival_11 : decode cX6_lastArrival 11 = .ok (.getfield 180, 3) := by decide +kernel
theorem dX6_lastArrival_14 : decode cX6_lastArrival 14 = .ok (.iload_n 1, 1) := by decide +kernel
theorem dX6_lastArrival_15 : decode cX6_lastArrival 15 = .ok (.aaload, 1) := by decide +kernel
theorem dX6_lastArrival_16 : decode cX6_lastArrival 16 = .ok (.getfield 195, 3) := by decide +kernel
theorem dX6_lastArrival_19 : decode cX6_lastArrival 19 = .ok (.goto 4, 3) := by decide +kernel
theorem dX6_lastArrival_22 : decode cX6_lastArrival 22 = .ok (.iconst (-1), 1) := by decide +kernel
theorem dX6_lastArrival_23 : decode cX6_lastArrival 23 = .ok (.ireturn, 1) := by decide +kernel
theorem dX6_appendCharacter_0 : decode cX6_appendCharacter 0 = .ok (.iload_n 1, 1) := by decide +kernel
theorem dX6_appendCharacter_1 : decode cX6_appendCharacter 1 = .ok (.iconst 0, 1) := by decide +kernel
theorem dX6_appendCharacter_2 : decode cX6_appendCharacter 2 = .ok (.sipush 255, 3) := by decide +kernel
theorem dX6_appendCharacter_5 : decode cX6_appendCharacter 5 = .ok (.invokestatic 38, 3) := by decide +kernel
theorem dX6_appendCharacter_8 : decode cX6_appendCharacter 8 = .ok (.ifCond .ne 5, 3) := by decide +kernel
theorem dX6_appendCharacter_11 : decode cX6_appendCharacter 11 = .ok (.iconst (-1), 1) := by decide +kernel
theorem dX6_appendCharacter_12 : decode cX6_appendCharacter 12 = .ok (.ireturn, 1) := by decide +kernel
theorem dX6_appendCharacter_13 : decode cX6_appendCharacter 13 = .ok (.aload_n 0, 1) := by decide +kernel
theorem dX6_appendCharacter_14 : decode cX6_appendCharacter 14 = .ok (.getfield 34, 3) := by decide +kernel
theorem dX6_appendCharacter_17 : decode cX6_appendCharacter 17 = .ok (.invokevirtual 198, 3) := by decide +kernel
theorem dX6_appendCharacter_20 : decode cX6_appendCharacter 20 = .ok (.ifCond .eq 6, 3) := by decide +kernel
theorem dX6_appendCharacter_23 : decode cX6_appendCharacter 23 = .ok (.bipush (-3), 2) := by decide +kernel
theorem dX6_appendCharacter_25 : decode cX6_appendCharacter 25 = .ok (.ireturn, 1) := by decide +kernel
theorem dX6_appendCharacter_26 : decode cX6_appendCharacter 26 = .ok (.aload_n 0, 1) := by decide +kernel
theorem dX6_appendCharacter_27 : decode cX6_appendCharacter 27 = .ok (.getfield 34, 3) := by decide +kernel
theorem dX6_appendCharacter_30 : decode cX6_appendCharacter 30 = .ok (.iload_n 1, 1) := by decide +kernel
theorem dX6_appendCharacter_31 : decode cX6_appendCharacter 31 = .ok (.invokevirtual 201, 3) := by decide +kernel
theorem dX6_appendCharacter_34 : decode cX6_appendCharacter 34 = .ok (.aload_n 0, 1) := by decide +kernel
theorem dX6_appendCharacter_35 : decode cX6_appendCharacter 35 = .ok (.getfield 34, 3) := by decide +kernel
theorem dX6_appendCharacter_38 : decode cX6_appendCharacter 38 = .ok (.getfield 204, 3) := by decide +kernel
theorem dX6_appendCharacter_41 : decode cX6_appendCharacter 41 = .ok (.ireturn, 1) := by decide +kernel
theorem dX6_clearText_0 : decode cX6_clearText 0 = .ok (.aload_n 0, 1) := by decide +kernel
theorem dX6_clearText_1 : decode cX6_clearText 1 = .ok (.getfield 34, 3) := by decide +kernel
theorem dX6_clearText_4 : decode cX6_clearText 4 = .ok (.getfield 204, 3) := by decide +kernel
theorem dX6_clearText_7 : decode cX6_clearText 7 = .ok (.istore_n 1, 1) := by decide +kernel
theorem dX6_clearText_8 : decode cX6_clearText 8 = .ok (.aload_n 0, 1) := by decide +kernel
theorem dX6_clearText_9 : decode cX6_clearText 9 = .ok (.getfield 34, 3) := by decide +kernel
theorem dX6_clearText_12 : decode cX6_clearText 12 = .ok (.invokevirtual 207, 3) := by decide +kernel
theorem dX6_clearText_15 : decode cX6_clearText 15 = .ok (.iload_n 1, 1) := by decide +kernel
theorem dX6_clearText_16 : decode cX6_clearText 16 = .ok (.ireturn, 1) := by decide +kernel
theorem dX6_runTrace_0 : decode cX6_runTrace 0 = .ok (.aload_n 0, 1) := by decide +kernel
theorem dX6_runTrace_1 : decode cX6_runTrace 1 = .ok (.getfield 34, 3) := by decide +kernel
theorem dX6_runTrace_4 : decode cX6_runTrace 4 = .ok (.invokevirtual 210, 3) := by decide +kernel
theorem dX6_runTrace_7 : decode cX6_runTrace 7 = .ok (.istore_n 1, 1) := by decide +kernel
theorem dX6_runTrace_8 : decode cX6_runTrace 8 = .ok (.iload_n 1, 1) := by decide +kernel
theorem dX6_runTrace_9 : decode cX6_runTrace 9 = .ok (.iconst (-1), 1) := by decide +kernel
theorem dX6_runTrace_10 : decode cX6_runTrace 10 = .ok (.if_icmp .eq 8, 3) := by decide +kernel
theorem dX6_runTrace_13 : decode cX6_runTrace 13 = .ok (.bipush (-10), 2) := by decide +kernel
theorem dX6_runTrace_15 : decode cX6_runTrace 15 = .ok (.iload_n 1, 1) := by decide +kernel
theorem dX6_runTrace_16 : decode cX6_runTrace 16 = .ok (.isub, 1) := by decide +kernel
theorem dX6_runTrace_17 : decode cX6_runTrace 17 = .ok (.ireturn, 1) := by decide +kernel
theorem dX6_runTrace_18 : decode cX6_runTrace 18 = .ok (.aload_n 0, 1) := by decide +kernel
theorem dX6_runTrace_19 : decode cX6_runTrace 19 = .ok (.getfield 19, 3) := by decide +kernel
theorem dX6_runTrace_22 : decode cX6_runTrace 22 = .ok (.aload_n 0, 1) := by decide +kernel
theorem dX6_runTrace_23 : decode cX6_runTrace 23 = .ok (.getfield 10, 3) := by decide +kernel
theorem dX6_runTrace_26 : decode cX6_runTrace 26 = .ok (.invokevirtual 42, 3) := by decide +kernel
theorem dX6_runTrace_29 : decode cX6_runTrace 29 = .ok (.iconst 0, 1) := by decide +kernel
theorem dX6_runTrace_30 : decode cX6_runTrace 30 = .ok (.istore_n 2, 1) := by decide +kernel
theorem dX6_runTrace_31 : decode cX6_runTrace 31 = .ok (.aload_n 0, 1) := by decide +kernel
theorem dX6_runTrace_32 : decode cX6_runTrace 32 = .ok (.getfield 34, 3) := by decide +kernel
theorem dX6_runTrace_35 : decode cX6_runTrace 35 = .ok (.invokevirtual 213, 3) := by decide +kernel
theorem dX6_runTrace_38 : decode cX6_runTrace 38 = .ok (.iconst 0, 1) := by decide +kernel
theorem dX6_runTrace_39 : decode cX6_runTrace 39 = .ok (.istore_n 3, 1) := by decide +kernel
theorem dX6_runTrace_40 : decode cX6_runTrace 40 = .ok (.iload_n 3, 1) := by decide +kernel
theorem dX6_runTrace_41 : decode cX6_runTrace 41 = .ok (.bipush 120, 2) := by decide +kernel
theorem dX6_runTrace_43 : decode cX6_runTrace 43 = .ok (.if_icmp .ge 29, 3) := by decide +kernel
theorem dX6_runTrace_46 : decode cX6_runTrace 46 = .ok (.aload_n 0, 1) := by decide +kernel
theorem dX6_runTrace_47 : decode cX6_runTrace 47 = .ok (.getfield 34, 3) := by decide +kernel
theorem dX6_runTrace_50 : decode cX6_runTrace 50 = .ok (.invokevirtual 216, 3) := by decide +kernel
theorem dX6_runTrace_53 : decode cX6_runTrace 53 = .ok (.ifCond .eq 19, 3) := by decide +kernel
theorem dX6_runTrace_56 : decode cX6_runTrace 56 = .ok (.aload_n 0, 1) := by decide +kernel
theorem dX6_runTrace_57 : decode cX6_runTrace 57 = .ok (.invokevirtual 219, 3) := by decide +kernel
theorem dX6_runTrace_60 : decode cX6_runTrace 60 = .ok (.ifCond .eq 6, 3) := by decide +kernel
theorem dX6_runTrace_63 : decode cX6_runTrace 63 = .ok (.iinc 2 1, 3) := by decide +kernel
theorem dX6_runTrace_66 : decode cX6_runTrace 66 = .ok (.iinc 3 1, 3) := by decide +kernel
theorem dX6_runTrace_69 : decode cX6_runTrace 69 = .ok (.goto (-29), 3) := by decide +kernel
theorem dX6_runTrace_72 : decode cX6_runTrace 72 = .ok (.aload_n 0, 1) := by decide +kernel
theorem dX6_runTrace_73 : decode cX6_runTrace 73 = .ok (.getfield 34, 3) := by decide +kernel
theorem dX6_runTrace_76 : decode cX6_runTrace 76 = .ok (.invokevirtual 207, 3) := by decide +kernel
theorem dX6_runTrace_79 : decode cX6_runTrace 79 = .ok (.iload_n 2, 1) := by decide +kernel
theorem dX6_runTrace_80 : decode cX6_runTrace 80 = .ok (.ireturn, 1) := by decide +kernel
theorem dX6_undo_0 : decode cX6_undo 0 = .ok (.aload_n 0, 1) := by decide +kernel
theorem dX6_undo_1 : decode cX6_undo 1 = .ok (.getfield 19, 3) := by decide +kernel
theorem dX6_undo_4 : decode cX6_undo 4 = .ok (.getfield 222, 3) := by decide +kernel
theorem dX6_undo_7 : decode cX6_undo 7 = .ok (.ifCond .ne 6, 3) := by decide +kernel
theorem dX6_undo_10 : decode cX6_undo 10 = .ok (.bipush (-2), 2) := by decide +kernel
theorem dX6_undo_12 : decode cX6_undo 12 = .ok (.ireturn, 1) := by decide +kernel

theorem dX0_init_0 : decode cX0_init 0 = .ok (.aload_n 0, 1) := by decide +kernel
theorem dX0_init_1 : decode cX0_init 1 = .ok (.invokespecial 3, 3) := by decide +kernel
theorem dX0_init_4 : decode cX0_init 4 = .ok (.return_, 1) := by decide +kernel
theorem dX0_reset_0 : decode cX0_reset 0 = .ok (.aload_n 0, 1) := by decide +kernel
theorem dX0_reset_1 : decode cX0_reset 1 = .ok (.iconst 0, 1) := by decide +kernel
theorem dX0_reset_2 : decode cX0_reset 2 = .ok (.putfield 9, 3) := by decide +kernel
theorem dX0_reset_5 : decode cX0_reset 5 = .ok (.aload_n 0, 1) := by decide +kernel
theorem dX0_reset_6 : decode cX0_reset 6 = .ok (.bipush (-9), 2) := by decide +kernel
theorem dX0_reset_8 : decode cX0_reset 8 = .ok (.putfield 15, 3) := by decide +kernel
theorem dX0_reset_11 : decode cX0_reset 11 = .ok (.aload_n 0, 1) := by decide +kernel
theorem dX0_reset_12 : decode cX0_reset 12 = .ok (.iconst 0, 1) := by decide +kernel
theorem dX0_reset_13 : decode cX0_reset 13 = .ok (.putfield 19, 3) := by decide +kernel
theorem dX0_reset_16 : decode cX0_reset 16 = .ok (.aload_n 0, 1) := by decide +kernel
theorem dX0_reset_17 : decode cX0_reset 17 = .ok (.iconst 0, 1) := by decide +kernel
theorem dX0_reset_18 : decode cX0_reset 18 = .ok (.putfield 22, 3) := by decide +kernel
theorem dX0_reset_21 : decode cX0_reset 21 = .ok (.return_, 1) := by decide +kernel
theorem dX0_copyFrom_0 : decode cX0_copyFrom 0 = .ok (.aload_n 0, 1) := by decide +kernel
theorem dX0_copyFrom_1 : decode cX0_copyFrom 1 = .ok (.aload_n 1, 1) := by decide +kernel
theorem dX0_copyFrom_2 : decode cX0_copyFrom 2 = .ok (.getfield 9, 3) := by decide +kernel
theorem dX0_copyFrom_5 : decode cX0_copyFrom 5 = .ok (.putfield 9, 3) := by decide +kernel
theorem dX0_copyFrom_8 : decode cX0_copyFrom 8 = .ok (.aload_n 0, 1) := by decide +kernel
theorem dX0_copyFrom_9 : decode cX0_copyFrom 9 = .ok (.aload_n 1, 1) := by decide +kernel
theorem dX0_copyFrom_10 : decode cX0_copyFrom 10 = .ok (.getfield 15, 3) := by decide +kernel
theorem dX0_copyFrom_13 : decode cX0_copyFrom 13 = .ok (.putfield 15, 3) := by decide +kernel
theorem dX0_copyFrom_16 : decode cX0_copyFrom 16 = .ok (.aload_n 0, 1) := by decide +kernel
theorem dX0_copyFrom_17 : decode cX0_copyFrom 17 = .ok (.aload_n 1, 1) := by decide +kernel
theorem dX0_copyFrom_18 : decode cX0_copyFrom 18 = .ok (.getfield 19, 3) := by decide +kernel
theorem dX0_copyFrom_21 : decode cX0_copyFrom 21 = .ok (.putfield 19, 3) := by decide +kernel
theorem dX0_copyFrom_24 : decode cX0_copyFrom 24 = .ok (.aload_n 0, 1) := by decide +kernel
theorem dX0_copyFrom_25 : decode cX0_copyFrom 25 = .ok (.aload_n 1, 1) := by decide +kernel
theorem dX0_copyFrom_26 : decode cX0_copyFrom 26 = .ok (.getfield 22, 3) := by decide +kernel
theorem dX0_copyFrom_29 : decode cX0_copyFrom 29 = .ok (.putfield 22, 3) := by decide +kernel
theorem dX0_copyFrom_32 : decode cX0_copyFrom 32 = .ok (.return_, 1) := by decide +kernel
theorem dX0_isUnused_0 : decode cX0_isUnused 0 = .ok (.aload_n 0, 1) := by decide +kernel
theorem dX0_isUnused_1 : decode cX0_isUnused 1 = .ok (.getfield 15, 3) := by decide +kernel
theorem dX0_isUnused_4 : decode cX0_isUnused 4 = .ok (.bipush (-9), 2) := by decide +kernel
theorem dX0_isUnused_6 : decode cX0_isUnused 6 = .ok (.if_icmp .ne 7, 3) := by decide +kernel
theorem dX0_isUnused_9 : decode cX0_isUnused 9 = .ok (.iconst 1, 1) := by decide +kernel
theorem dX0_isUnused_10 : decode cX0_isUnused 10 = .ok (.goto 4, 3) := by decide +kernel
theorem dX0_isUnused_13 : decode cX0_isUnused 13 = .ok (.iconst 0, 1) := by decide +kernel
theorem dX0_isUnused_14 : decode cX0_isUnused 14 = .ok (.ireturn, 1) := by decide +kernel
theorem dX0_take_0 : decode cX0_take 0 = .ok (.aload_n 0, 1) := by decide +kernel
theorem dX0_take_1 : decode cX0_take 1 = .ok (.iconst 1, 1) := by decide +kernel
theorem dX0_take_2 : decode cX0_take 2 = .ok (.putfield 9, 3) := by decide +kernel
theorem dX0_take_5 : decode cX0_take 5 = .ok (.aload_n 0, 1) := by decide +kernel
theorem dX0_take_6 : decode cX0_take 6 = .ok (.iload_n 1, 1) := by decide +kernel
theorem dX0_take_7 : decode cX0_take 7 = .ok (.putfield 15, 3) := by decide +kernel
theorem dX0_take_10 : decode cX0_take 10 = .ok (.aload_n 0, 1) := by decide +kernel
theorem dX0_take_11 : decode cX0_take 11 = .ok (.iload_n 2, 1) := by decide +kernel
theorem dX0_take_12 : decode cX0_take 12 = .ok (.putfield 19, 3) := by decide +kernel
theorem dX0_take_15 : decode cX0_take 15 = .ok (.aload_n 0, 1) := by decide +kernel
theorem dX0_take_16 : decode cX0_take 16 = .ok (.iconst 0, 1) := by decide +kernel
theorem dX0_take_17 : decode cX0_take 17 = .ok (.putfield 22, 3) := by decide +kernel
theorem dX0_take_20 : decode cX0_take 20 = .ok (.return_, 1) := by decide +kernel
theorem dX0_growOlder_0 : decode cX0_growOlder 0 = .ok (.aload_n 0, 1) := by decide +kernel
theorem dX0_growOlder_1 : decode cX0_growOlder 1 = .ok (.getfield 9, 3) := by decide +kernel
theorem dX0_growOlder_4 : decode cX0_growOlder 4 = .ok (.ifCond .eq 19, 3) := by decide +kernel
theorem dX0_growOlder_7 : decode cX0_growOlder 7 = .ok (.aload_n 0, 1) := by decide +kernel
theorem dX0_growOlder_8 : decode cX0_growOlder 8 = .ok (.getfield 22, 3) := by decide +kernel
theorem dX0_growOlder_11 : decode cX0_growOlder 11 = .ok (.iconst 1, 1) := by decide +kernel
theorem dX0_growOlder_12 : decode cX0_growOlder 12 = .ok (.if_icmp .ne 11, 3) := by decide +kernel
theorem dX0_growOlder_15 : decode cX0_growOlder 15 = .ok (.aload_n 0, 1) := by decide +kernel
theorem dX0_growOlder_16 : decode cX0_growOlder 16 = .ok (.iconst 0, 1) := by decide +kernel
theorem dX0_growOlder_17 : decode cX0_growOlder 17 = .ok (.putfield 9, 3) := by decide +kernel
theorem dX0_growOlder_20 : decode cX0_growOlder 20 = .ok (.goto 15, 3) := by decide +kernel
theorem dX0_growOlder_23 : decode cX0_growOlder 23 = .ok (.aload_n 0, 1) := by decide +kernel
theorem dX0_growOlder_24 : decode cX0_growOlder 24 = .ok (.getfield 9, 3) := by decide +kernel
theorem dX0_growOlder_27 : decode cX0_growOlder 27 = .ok (.ifCond .eq 8, 3) := by decide +kernel
theorem dX0_growOlder_30 : decode cX0_growOlder 30 = .ok (.aload_n 0, 1) := by decide +kernel
theorem dX0_growOlder_31 : decode cX0_growOlder 31 = .ok (.iconst 1, 1) := by decide +kernel
theorem dX0_growOlder_32 : decode cX0_growOlder 32 = .ok (.putfield 22, 3) := by decide +kernel
theorem dX0_growOlder_35 : decode cX0_growOlder 35 = .ok (.return_, 1) := by decide +kernel
theorem dX1_init_0 : decode cX1_init 0 = .ok (.aload_n 0, 1) := by decide +kernel
theorem dX1_init_1 : decode cX1_init 1 = .ok (.invokespecial 3, 3) := by decide +kernel
theorem dX1_init_4 : decode cX1_init 4 = .ok (.return_, 1) := by decide +kernel
theorem dX1_reset_0 : decode cX1_reset 0 = .ok (.aload_n 0, 1) := by decide +kernel
theorem dX1_reset_1 : decode cX1_reset 1 = .ok (.iconst 0, 1) := by decide +kernel
theorem dX1_reset_2 : decode cX1_reset 2 = .ok (.putfield 9, 3) := by decide +kernel
theorem dX1_reset_5 : decode cX1_reset 5 = .ok (.aload_n 0, 1) := by decide +kernel
theorem dX1_reset_6 : decode cX1_reset 6 = .ok (.iconst 0, 1) := by decide +kernel
theorem dX1_reset_7 : decode cX1_reset 7 = .ok (.putfield 15, 3) := by decide +kernel
theorem dX1_reset_10 : decode cX1_reset 10 = .ok (.aload_n 0, 1) := by decide +kernel
theorem dX1_reset_11 : decode cX1_reset 11 = .ok (.iconst 0, 1) := by decide +kernel
theorem dX1_reset_12 : decode cX1_reset 12 = .ok (.putfield 18, 3) := by decide +kernel
theorem dX1_reset_15 : decode cX1_reset 15 = .ok (.aload_n 0, 1) := by decide +kernel
theorem dX1_reset_16 : decode cX1_reset 16 = .ok (.bipush (-9), 2) := by decide +kernel
theorem dX1_reset_18 : decode cX1_reset 18 = .ok (.putfield 21, 3) := by decide +kernel
theorem dX1_reset_21 : decode cX1_reset 21 = .ok (.aload_n 0, 1) := by decide +kernel
theorem dX1_reset_22 : decode cX1_reset 22 = .ok (.bipush (-9), 2) := by decide +kernel
theorem dX1_reset_24 : decode cX1_reset 24 = .ok (.putfield 24, 3) := by decide +kernel
theorem dX1_reset_27 : decode cX1_reset 27 = .ok (.return_, 1) := by decide +kernel
theorem dX1_copyFrom_0 : decode cX1_copyFrom 0 = .ok (.aload_n 0, 1) := by decide +kernel
theorem dX1_copyFrom_1 : decode cX1_copyFrom 1 = .ok (.aload_n 1, 1) := by decide +kernel
theorem dX1_copyFrom_2 : decode cX1_copyFrom 2 = .ok (.getfield 9, 3) := by decide +kernel
theorem dX1_copyFrom_5 : decode cX1_copyFrom 5 = .ok (.putfield 9, 3) := by decide +kernel
theorem dX1_copyFrom_8 : decode cX1_copyFrom 8 = .ok (.aload_n 0, 1) := by decide +kernel
theorem dX1_copyFrom_9 : decode cX1_copyFrom 9 = .ok (.aload_n 1, 1) := by decide +kernel
theorem dX1_copyFrom_10 : decode cX1_copyFrom 10 = .ok (.getfield 15, 3) := by decide +kernel
theorem dX1_copyFrom_13 : decode cX1_copyFrom 13 = .ok (.putfield 15, 3) := by decide +kernel
theorem dX1_copyFrom_16 : decode cX1_copyFrom 16 = .ok (.aload_n 0, 1) := by decide +kernel
theorem dX1_copyFrom_17 : decode cX1_copyFrom 17 = .ok (.aload_n 1, 1) := by decide +kernel
theorem dX1_copyFrom_18 : decode cX1_copyFrom 18 = .ok (.getfield 18, 3) := by decide +kernel
theorem dX1_copyFrom_21 : decode cX1_copyFrom 21 = .ok (.putfield 18, 3) := by decide +kernel
theorem dX1_copyFrom_24 : decode cX1_copyFrom 24 = .ok (.aload_n 0, 1) := by decide +kernel
theorem dX1_copyFrom_25 : decode cX1_copyFrom 25 = .ok (.aload_n 1, 1) := by decide +kernel
theorem dX1_copyFrom_26 : decode cX1_copyFrom 26 = .ok (.getfield 21, 3) := by decide +kernel
theorem dX1_copyFrom_29 : decode cX1_copyFrom 29 = .ok (.putfield 21, 3) := by decide +kernel
theorem dX1_copyFrom_32 : decode cX1_copyFrom 32 = .ok (.aload_n 0, 1) := by decide +kernel
theorem dX1_copyFrom_33 : decode cX1_copyFrom 33 = .ok (.aload_n 1, 1) := by decide +kernel
theorem dX1_copyFrom_34 : decode cX1_copyFrom 34 = .ok (.getfield 24, 3) := by decide +kernel
theorem dX1_copyFrom_37 : decode cX1_copyFrom 37 = .ok (.putfield 24, 3) := by decide +kernel
theorem dX1_copyFrom_40 : decode cX1_copyFrom 40 = .ok (.return_, 1) := by decide +kernel
theorem dX1_isOvertakenBy_0 : decode cX1_isOvertakenBy 0 = .ok (.iload_n 1, 1) := by decide +kernel
theorem dX1_isOvertakenBy_1 : decode cX1_isOvertakenBy 1 = .ok (.aload_n 0, 1) := by decide +kernel
theorem dX1_isOvertakenBy_2 : decode cX1_isOvertakenBy 2 = .ok (.getfield 24, 3) := by decide +kernel
theorem dX1_isOvertakenBy_5 : decode cX1_isOvertakenBy 5 = .ok (.if_icmp .ge 7, 3) := by decide +kernel
theorem dX1_isOvertakenBy_8 : decode cX1_isOvertakenBy 8 = .ok (.iconst 1, 1) := by decide +kernel
theorem dX1_isOvertakenBy_9 : decode cX1_isOvertakenBy 9 = .ok (.goto 4, 3) := by decide +kernel
theorem dX1_isOvertakenBy_12 : decode cX1_isOvertakenBy 12 = .ok (.iconst 0, 1) := by decide +kernel
theorem dX1_isOvertakenBy_13 : decode cX1_isOvertakenBy 13 = .ok (.ireturn, 1) := by decide +kernel
theorem dX1_deliver_0 : decode cX1_deliver 0 = .ok (.aload_n 0, 1) := by decide +kernel
theorem dX1_deliver_1 : decode cX1_deliver 1 = .ok (.getfield 21, 3) := by decide +kernel
theorem dX1_deliver_4 : decode cX1_deliver 4 = .ok (.bipush (-9), 2) := by decide +kernel
theorem dX1_deliver_6 : decode cX1_deliver 6 = .ok (.if_icmp .eq 21, 3) := by decide +kernel
theorem dX1_deliver_9 : decode cX1_deliver 9 = .ok (.aload_n 0, 1) := by decide +kernel
theorem dX1_deliver_10 : decode cX1_deliver 10 = .ok (.getfield 21, 3) := by decide +kernel
theorem dX1_deliver_13 : decode cX1_deliver 13 = .ok (.iload_n 1, 1) := by decide +kernel
theorem dX1_deliver_14 : decode cX1_deliver 14 = .ok (.if_icmp .eq 13, 3) := by decide +kernel
theorem dX1_deliver_17 : decode cX1_deliver 17 = .ok (.aload_n 0, 1) := by decide +kernel
theorem dX1_deliver_18 : decode cX1_deliver 18 = .ok (.dup, 1) := by decide +kernel
theorem dX1_deliver_19 : decode cX1_deliver 19 = .ok (.getfield 15, 3) := by decide +kernel
theorem dX1_deliver_22 : decode cX1_deliver 22 = .ok (.iconst 1, 1) := by decide +kernel
theorem dX1_deliver_23 : decode cX1_deliver 23 = .ok (.iadd, 1) := by decide +kernel
theorem dX1_deliver_24 : decode cX1_deliver 24 = .ok (.putfield 15, 3) := by decide +kernel
theorem dX1_deliver_27 : decode cX1_deliver 27 = .ok (.aload_n 0, 1) := by decide +kernel
theorem dX1_deliver_28 : decode cX1_deliver 28 = .ok (.iload_n 2, 1) := by decide +kernel
theorem dX1_deliver_29 : decode cX1_deliver 29 = .ok (.invokevirtual 27, 3) := by decide +kernel
theorem dX1_deliver_32 : decode cX1_deliver 32 = .ok (.ifCond .eq 13, 3) := by decide +kernel
theorem dX1_deliver_35 : decode cX1_deliver 35 = .ok (.aload_n 0, 1) := by decide +kernel
theorem dX1_deliver_36 : decode cX1_deliver 36 = .ok (.dup, 1) := by decide +kernel
theorem dX1_deliver_37 : decode cX1_deliver 37 = .ok (.getfield 18, 3) := by decide +kernel
theorem dX1_deliver_40 : decode cX1_deliver 40 = .ok (.iconst 1, 1) := by decide +kernel
theorem dX1_deliver_41 : decode cX1_deliver 41 = .ok (.iadd, 1) := by decide +kernel
theorem dX1_deliver_42 : decode cX1_deliver 42 = .ok (.putfield 18, 3) := by decide +kernel
theorem dX1_deliver_45 : decode cX1_deliver 45 = .ok (.aload_n 0, 1) := by decide +kernel
theorem dX1_deliver_46 : decode cX1_deliver 46 = .ok (.iload_n 1, 1) := by decide +kernel
theorem dX1_deliver_47 : decode cX1_deliver 47 = .ok (.putfield 21, 3) := by decide +kernel
theorem dX1_deliver_50 : decode cX1_deliver 50 = .ok (.aload_n 0, 1) := by decide +kernel
theorem dX1_deliver_51 : decode cX1_deliver 51 = .ok (.aload_n 0, 1) := by decide +kernel
theorem dX1_deliver_52 : decode cX1_deliver 52 = .ok (.getfield 24, 3) := by decide +kernel
theorem dX1_deliver_55 : decode cX1_deliver 55 = .ok (.iload_n 2, 1) := by decide +kernel
theorem dX1_deliver_56 : decode cX1_deliver 56 = .ok (.invokestatic 31, 3) := by decide +kernel
theorem dX1_deliver_59 : decode cX1_deliver 59 = .ok (.putfield 24, 3) := by decide +kernel
theorem dX1_deliver_62 : decode cX1_deliver 62 = .ok (.return_, 1) := by decide +kernel
theorem dX2_init_0 : decode cX2_init 0 = .ok (.aload_n 0, 1) := by decide +kernel
theorem dX2_init_1 : decode cX2_init 1 = .ok (.invokespecial 3, 3) := by decide +kernel
theorem dX2_init_4 : decode cX2_init 4 = .ok (.return_, 1) := by decide +kernel
theorem dX2_reset_0 : decode cX2_reset 0 = .ok (.aload_n 0, 1) := by decide +kernel
theorem dX2_reset_1 : decode cX2_reset 1 = .ok (.bipush 10, 2) := by decide +kernel
theorem dX2_reset_3 : decode cX2_reset 3 = .ok (.putfield 9, 3) := by decide +kernel
theorem dX2_reset_6 : decode cX2_reset 6 = .ok (.aload_n 0, 1) := by decide +kernel
theorem dX2_reset_7 : decode cX2_reset 7 = .ok (.bipush 10, 2) := by decide +kernel
theorem dX2_reset_9 : decode cX2_reset 9 = .ok (.putfield 15, 3) := by decide +kernel
theorem dX2_reset_12 : decode cX2_reset 12 = .ok (.aload_n 0, 1) := by decide +kernel
theorem dX2_reset_13 : decode cX2_reset 13 = .ok (.iconst 0, 1) := by decide +kernel
theorem dX2_reset_14 : decode cX2_reset 14 = .ok (.putfield 18, 3) := by decide +kernel
theorem dX2_reset_17 : decode cX2_reset 17 = .ok (.aload_n 0, 1) := by decide +kernel
theorem dX2_reset_18 : decode cX2_reset 18 = .ok (.iconst 0, 1) := by decide +kernel
theorem dX2_reset_19 : decode cX2_reset 19 = .ok (.putfield 21, 3) := by decide +kernel
theorem dX2_reset_22 : decode cX2_reset 22 = .ok (.aload_n 0, 1) := by decide +kernel
theorem dX2_reset_23 : decode cX2_reset 23 = .ok (.iconst 0, 1) := by decide +kernel
theorem dX2_reset_24 : decode cX2_reset 24 = .ok (.putfield 24, 3) := by decide +kernel
theorem dX2_reset_27 : decode cX2_reset 27 = .ok (.aload_n 0, 1) := by decide +kernel
theorem dX2_reset_28 : decode cX2_reset 28 = .ok (.iconst 0, 1) := by decide +kernel
theorem dX2_reset_29 : decode cX2_reset 29 = .ok (.putfield 27, 3) := by decide +kernel
theorem dX2_reset_32 : decode cX2_reset 32 = .ok (.aload_n 0, 1) := by decide +kernel
theorem dX2_reset_33 : decode cX2_reset 33 = .ok (.iconst 0, 1) := by decide +kernel
theorem dX2_reset_34 : decode cX2_reset 34 = .ok (.putfield 30, 3) := by decide +kernel
theorem dX2_reset_37 : decode cX2_reset 37 = .ok (.aload_n 0, 1) := by decide +kernel
theorem dX2_reset_38 : decode cX2_reset 38 = .ok (.iconst 0, 1) := by decide +kernel
theorem dX2_reset_39 : decode cX2_reset 39 = .ok (.putfield 33, 3) := by decide +kernel
theorem dX2_reset_42 : decode cX2_reset 42 = .ok (.return_, 1) := by decide +kernel
theorem dX2_copyFrom_0 : decode cX2_copyFrom 0 = .ok (.aload_n 0, 1) := by decide +kernel
theorem dX2_copyFrom_1 : decode cX2_copyFrom 1 = .ok (.aload_n 1, 1) := by decide +kernel
theorem dX2_copyFrom_2 : decode cX2_copyFrom 2 = .ok (.getfield 9, 3) := by decide +kernel
theorem dX2_copyFrom_5 : decode cX2_copyFrom 5 = .ok (.putfield 9, 3) := by decide +kernel
theorem dX2_copyFrom_8 : decode cX2_copyFrom 8 = .ok (.aload_n 0, 1) := by decide +kernel
theorem dX2_copyFrom_9 : decode cX2_copyFrom 9 = .ok (.aload_n 1, 1) := by decide +kernel
theorem dX2_copyFrom_10 : decode cX2_copyFrom 10 = .ok (.getfield 15, 3) := by decide +kernel
theorem dX2_copyFrom_13 : decode cX2_copyFrom 13 = .ok (.putfield 15, 3) := by decide +kernel
theorem dX2_copyFrom_16 : decode cX2_copyFrom 16 = .ok (.aload_n 0, 1) := by decide +kernel
theorem dX2_copyFrom_17 : decode cX2_copyFrom 17 = .ok (.aload_n 1, 1) := by decide +kernel
theorem dX2_copyFrom_18 : decode cX2_copyFrom 18 = .ok (.getfield 18, 3) := by decide +kernel
theorem dX2_copyFrom_21 : decode cX2_copyFrom 21 = .ok (.putfield 18, 3) := by decide +kernel
theorem dX2_copyFrom_24 : decode cX2_copyFrom 24 = .ok (.aload_n 0, 1) := by decide +kernel
theorem dX2_copyFrom_25 : decode cX2_copyFrom 25 = .ok (.aload_n 1, 1) := by decide +kernel
theorem dX2_copyFrom_26 : decode cX2_copyFrom 26 = .ok (.getfield 21, 3) := by decide +kernel
theorem dX2_copyFrom_29 : decode cX2_copyFrom 29 = .ok (.putfield 21, 3) := by decide +kernel
theorem dX2_copyFrom_32 : decode cX2_copyFrom 32 = .ok (.aload_n 0, 1) := by decide +kernel
theorem dX2_copyFrom_33 : decode cX2_copyFrom 33 = .ok (.aload_n 1, 1) := by decide +kernel
theorem dX2_copyFrom_34 : decode cX2_copyFrom 34 = .ok (.getfield 24, 3) := by decide +kernel
theorem dX2_copyFrom_37 : decode cX2_copyFrom 37 = .ok (.putfield 24, 3) := by decide +kernel
theorem dX2_copyFrom_40 : decode cX2_copyFrom 40 = .ok (.aload_n 0, 1) := by decide +kernel
theorem dX2_copyFrom_41 : decode cX2_copyFrom 41 = .ok (.aload_n 1, 1) := by decide +kernel
theorem dX2_copyFrom_42 : decode cX2_copyFrom 42 = .ok (.getfield 27, 3) := by decide +kernel
theorem dX2_copyFrom_45 : decode cX2_copyFrom 45 = .ok (.putfield 27, 3) := by decide +kernel
theorem dX2_copyFrom_48 : decode cX2_copyFrom 48 = .ok (.aload_n 0, 1) := by decide +kernel
theorem dX2_copyFrom_49 : decode cX2_copyFrom 49 = .ok (.aload_n 1, 1) := by decide +kernel
theorem dX2_copyFrom_50 : decode cX2_copyFrom 50 = .ok (.getfield 30, 3) := by decide +kernel
theorem dX2_copyFrom_53 : decode cX2_copyFrom 53 = .ok (.putfield 30, 3) := by decide +kernel
theorem dX2_copyFrom_56 : decode cX2_copyFrom 56 = .ok (.aload_n 0, 1) := by decide +kernel
theorem dX2_copyFrom_57 : decode cX2_copyFrom 57 = .ok (.aload_n 1, 1) := by decide +kernel
theorem dX2_copyFrom_58 : decode cX2_copyFrom 58 = .ok (.getfield 33, 3) := by decide +kernel
theorem dX2_copyFrom_61 : decode cX2_copyFrom 61 = .ok (.putfield 33, 3) := by decide +kernel
theorem dX2_copyFrom_64 : decode cX2_copyFrom 64 = .ok (.return_, 1) := by decide +kernel
theorem dX2_congestion_0 : decode cX2_congestion 0 = .ok (.aload_n 0, 1) := by decide +kernel
theorem dX2_congestion_1 : decode cX2_congestion 1 = .ok (.getfield 21, 3) := by decide +kernel
theorem dX2_congestion_4 : decode cX2_congestion 4 = .ok (.bipush 64, 2) := by decide +kernel
theorem dX2_congestion_6 : decode cX2_congestion 6 = .ok (.idiv, 1) := by decide +kernel
theorem dX2_congestion_7 : decode cX2_congestion 7 = .ok (.bipush 7, 2) := by decide +kernel
theorem dX2_congestion_9 : decode cX2_congestion 9 = .ok (.invokestatic 36, 3) := by decide +kernel
theorem dX2_congestion_12 : decode cX2_congestion 12 = .ok (.istore_n 1, 1) := by decide +kernel
theorem dX2_congestion_13 : decode cX2_congestion 13 = .ok (.iload_n 1, 1) := by decide +kernel
theorem dX2_congestion_14 : decode cX2_congestion 14 = .ok (.aload_n 0, 1) := by decide +kernel
theorem dX2_congestion_15 : decode cX2_congestion 15 = .ok (.getfield 18, 3) := by decide +kernel
theorem dX2_congestion_18 : decode cX2_congestion 18 = .ok (.invokestatic 42, 3) := by decide +kernel
theorem dX2_congestion_21 : decode cX2_congestion 21 = .ok (.ireturn, 1) := by decide +kernel
theorem dX2_decay_0 : decode cX2_decay 0 = .ok (.aload_n 0, 1) := by decide +kernel
theorem dX2_decay_1 : decode cX2_decay 1 = .ok (.dup, 1) := by decide +kernel
theorem dX2_decay_2 : decode cX2_decay 2 = .ok (.getfield 21, 3) := by decide +kernel
theorem dX2_decay_5 : decode cX2_decay 5 = .ok (.aload_n 0, 1) := by decide +kernel
theorem dX2_decay_6 : decode cX2_decay 6 = .ok (.getfield 21, 3) := by decide +kernel
theorem dX2_decay_9 : decode cX2_decay 9 = .ok (.iload_n 1, 1) := by decide +kernel
theorem dX2_decay_10 : decode cX2_decay 10 = .ok (.ishr, 1) := by decide +kernel
theorem dX2_decay_11 : decode cX2_decay 11 = .ok (.isub, 1) := by decide +kernel
theorem dX2_decay_12 : decode cX2_decay 12 = .ok (.putfield 21, 3) := by decide +kernel
theorem dX2_decay_15 : decode cX2_decay 15 = .ok (.return_, 1) := by decide +kernel
theorem dX2_waitAt_0 : decode cX2_waitAt 0 = .ok (.aload_n 0, 1) := by decide +kernel
theorem dX2_waitAt_1 : decode cX2_waitAt 1 = .ok (.getfield 24, 3) := by decide +kernel
theorem dX2_waitAt_4 : decode cX2_waitAt 4 = .ok (.iload_n 1, 1) := by decide +kernel
theorem dX2_waitAt_5 : decode cX2_waitAt 5 = .ok (.isub, 1) := by decide +kernel
theorem dX2_waitAt_6 : decode cX2_waitAt 6 = .ok (.iconst 0, 1) := by decide +kernel
theorem dX2_waitAt_7 : decode cX2_waitAt 7 = .ok (.invokestatic 42, 3) := by decide +kernel
theorem dX2_waitAt_10 : decode cX2_waitAt 10 = .ok (.ireturn, 1) := by decide +kernel
theorem dX2_dropsAt_0 : decode cX2_dropsAt 0 = .ok (.aload_n 0, 1) := by decide +kernel
theorem dX2_dropsAt_1 : decode cX2_dropsAt 1 = .ok (.iload_n 1, 1) := by decide +kernel
theorem dX2_dropsAt_2 : decode cX2_dropsAt 2 = .ok (.invokevirtual 45, 3) := by decide +kernel
theorem dX2_dropsAt_5 : decode cX2_dropsAt 5 = .ok (.sipush 200, 3) := by decide +kernel
theorem dX2_dropsAt_8 : decode cX2_dropsAt 8 = .ok (.if_icmp .le 7, 3) := by decide +kernel
theorem dX2_dropsAt_11 : decode cX2_dropsAt 11 = .ok (.iconst 1, 1) := by decide +kernel
theorem dX2_dropsAt_12 : decode cX2_dropsAt 12 = .ok (.goto 4, 3) := by decide +kernel
theorem dX2_dropsAt_15 : decode cX2_dropsAt 15 = .ok (.iconst 0, 1) := by decide +kernel
theorem dX2_dropsAt_16 : decode cX2_dropsAt 16 = .ok (.ireturn, 1) := by decide +kernel
theorem dX2_ticksToTransmit_0 : decode cX2_ticksToTransmit 0 = .ok (.aload_n 0, 1) := by decide +kernel
theorem dX2_ticksToTransmit_1 : decode cX2_ticksToTransmit 1 = .ok (.getfield 15, 3) := by decide +kernel
theorem dX2_ticksToTransmit_4 : decode cX2_ticksToTransmit 4 = .ok (.iconst 1, 1) := by decide +kernel
theorem dX2_ticksToTransmit_5 : decode cX2_ticksToTransmit 5 = .ok (.if_icmp .ge 7, 3) := by decide +kernel
theorem dX2_ticksToTransmit_8 : decode cX2_ticksToTransmit 8 = .ok (.iconst 0, 1) := by decide +kernel
theorem dX2_ticksToTransmit_9 : decode cX2_ticksToTransmit 9 = .ok (.goto 16, 3) := by decide +kernel
theorem dX2_ticksToTransmit_12 : decode cX2_ticksToTransmit 12 = .ok (.iload_n 1, 1) := by decide +kernel
theorem dX2_ticksToTransmit_13 : decode cX2_ticksToTransmit 13 = .ok (.aload_n 0, 1) := by decide +kernel
theorem dX2_ticksToTransmit_14 : decode cX2_ticksToTransmit 14 = .ok (.getfield 15, 3) := by decide +kernel
theorem dX2_ticksToTransmit_17 : decode cX2_ticksToTransmit 17 = .ok (.iadd, 1) := by decide +kernel
theorem dX2_ticksToTransmit_18 : decode cX2_ticksToTransmit 18 = .ok (.iconst 1, 1) := by decide +kernel
theorem dX2_ticksToTransmit_19 : decode cX2_ticksToTransmit 19 = .ok (.isub, 1) := by decide +kernel
theorem dX2_ticksToTransmit_20 : decode cX2_ticksToTransmit 20 = .ok (.aload_n 0, 1) := by decide +kernel
theorem dX2_ticksToTransmit_21 : decode cX2_ticksToTransmit 21 = .ok (.getfield 15, 3) := by decide +kernel
theorem dX2_ticksToTransmit_24 : decode cX2_ticksToTransmit 24 = .ok (.idiv, 1) := by decide +kernel
theorem dX2_ticksToTransmit_25 : decode cX2_ticksToTransmit 25 = .ok (.ireturn, 1) := by decide +kernel
theorem dX2_ticksToArrive_0 : decode cX2_ticksToArrive 0 = .ok (.aload_n 0, 1) := by decide +kernel
theorem dX2_ticksToArrive_1 : decode cX2_ticksToArrive 1 = .ok (.iload_n 1, 1) := by decide +kernel
theorem dX2_ticksToArrive_2 : decode cX2_ticksToArrive 2 = .ok (.invokevirtual 45, 3) := by decide +kernel
theorem dX2_ticksToArrive_5 : decode cX2_ticksToArrive 5 = .ok (.aload_n 0, 1) := by decide +kernel
theorem dX2_ticksToArrive_6 : decode cX2_ticksToArrive 6 = .ok (.iload_n 2, 1) := by decide +kernel
theorem dX2_ticksToArrive_7 : decode cX2_ticksToArrive 7 = .ok (.invokevirtual 49, 3) := by decide +kernel
theorem dX2_ticksToArrive_10 : decode cX2_ticksToArrive 10 = .ok (.iadd, 1) := by decide +kernel
theorem dX2_ticksToArrive_11 : decode cX2_ticksToArrive 11 = .ok (.aload_n 0, 1) := by decide +kernel
theorem dX2_ticksToArrive_12 : decode cX2_ticksToArrive 12 = .ok (.getfield 9, 3) := by decide +kernel
theorem dX2_ticksToArrive_15 : decode cX2_ticksToArrive 15 = .ok (.iadd, 1) := by decide +kernel
theorem dX2_ticksToArrive_16 : decode cX2_ticksToArrive 16 = .ok (.ireturn, 1) := by decide +kernel
theorem dX2_transmit_0 : decode cX2_transmit 0 = .ok (.aload_n 0, 1) := by decide +kernel
theorem dX2_transmit_1 : decode cX2_transmit 1 = .ok (.iload_n 1, 1) := by decide +kernel
theorem dX2_transmit_2 : decode cX2_transmit 2 = .ok (.aload_n 0, 1) := by decide +kernel
theorem dX2_transmit_3 : decode cX2_transmit 3 = .ok (.iload_n 1, 1) := by decide +kernel
theorem dX2_transmit_4 : decode cX2_transmit 4 = .ok (.invokevirtual 45, 3) := by decide +kernel
theorem dX2_transmit_7 : decode cX2_transmit 7 = .ok (.iadd, 1) := by decide +kernel
theorem dX2_transmit_8 : decode cX2_transmit 8 = .ok (.aload_n 0, 1) := by decide +kernel
theorem dX2_transmit_9 : decode cX2_transmit 9 = .ok (.iload_n 2, 1) := by decide +kernel
theorem dX2_transmit_10 : decode cX2_transmit 10 = .ok (.invokevirtual 49, 3) := by decide +kernel
theorem dX2_transmit_13 : decode cX2_transmit 13 = .ok (.iadd, 1) := by decide +kernel
theorem dX2_transmit_14 : decode cX2_transmit 14 = .ok (.putfield 24, 3) := by decide +kernel
theorem dX2_transmit_17 : decode cX2_transmit 17 = .ok (.aload_n 0, 1) := by decide +kernel
theorem dX2_transmit_18 : decode cX2_transmit 18 = .ok (.dup, 1) := by decide +kernel
theorem dX2_transmit_19 : decode cX2_transmit 19 = .ok (.getfield 21, 3) := by decide +kernel
theorem dX2_transmit_22 : decode cX2_transmit 22 = .ok (.iload_n 2, 1) := by decide +kernel
theorem dX2_transmit_23 : decode cX2_transmit 23 = .ok (.iadd, 1) := by decide +kernel
theorem dX2_transmit_24 : decode cX2_transmit 24 = .ok (.putfield 21, 3) := by decide +kernel
theorem dX2_transmit_27 : decode cX2_transmit 27 = .ok (.aload_n 0, 1) := by decide +kernel
theorem dX2_transmit_28 : decode cX2_transmit 28 = .ok (.dup, 1) := by decide +kernel
theorem dX2_transmit_29 : decode cX2_transmit 29 = .ok (.getfield 27, 3) := by decide +kernel
theorem dX2_transmit_32 : decode cX2_transmit 32 = .ok (.iconst 1, 1) := by decide +kernel
theorem dX2_transmit_33 : decode cX2_transmit 33 = .ok (.iadd, 1) := by decide +kernel
theorem dX2_transmit_34 : decode cX2_transmit 34 = .ok (.putfield 27, 3) := by decide +kernel
theorem dX2_transmit_37 : decode cX2_transmit 37 = .ok (.aload_n 0, 1) := by decide +kernel
theorem dX2_transmit_38 : decode cX2_transmit 38 = .ok (.dup, 1) := by decide +kernel
theorem dX2_transmit_39 : decode cX2_transmit 39 = .ok (.getfield 30, 3) := by decide +kernel
theorem dX2_transmit_42 : decode cX2_transmit 42 = .ok (.iload_n 2, 1) := by decide +kernel
theorem dX2_transmit_43 : decode cX2_transmit 43 = .ok (.iadd, 1) := by decide +kernel
theorem dX2_transmit_44 : decode cX2_transmit 44 = .ok (.putfield 30, 3) := by decide +kernel
theorem dX2_transmit_47 : decode cX2_transmit 47 = .ok (.return_, 1) := by decide +kernel
theorem dX3_init_0 : decode cX3_init 0 = .ok (.aload_n 0, 1) := by decide +kernel
theorem dX3_init_1 : decode cX3_init 1 = .ok (.invokespecial 3, 3) := by decide +kernel
theorem dX3_init_4 : decode cX3_init 4 = .ok (.aload_n 0, 1) := by decide +kernel
theorem dX3_init_5 : decode cX3_init 5 = .ok (.bipush 8, 2) := by decide +kernel
theorem dX3_init_7 : decode cX3_init 7 = .ok (.anewarray 9, 3) := by decide +kernel
theorem dX3_init_10 : decode cX3_init 10 = .ok (.putfield 11, 3) := by decide +kernel
theorem dX3_init_13 : decode cX3_init 13 = .ok (.iconst 0, 1) := by decide +kernel
theorem dX3_init_14 : decode cX3_init 14 = .ok (.istore_n 1, 1) := by decide +kernel
theorem dX3_init_15 : decode cX3_init 15 = .ok (.iload_n 1, 1) := by decide +kernel
theorem dX3_init_16 : decode cX3_init 16 = .ok (.bipush 8, 2) := by decide +kernel
theorem dX3_init_18 : decode cX3_init 18 = .ok (.if_icmp .ge 22, 3) := by decide +kernel
theorem dX3_init_21 : decode cX3_init 21 = .ok (.aload_n 0, 1) := by decide +kernel
theorem dX3_init_22 : decode cX3_init 22 = .ok (.getfield 11, 3) := by decide +kernel
theorem dX3_init_25 : decode cX3_init 25 = .ok (.iload_n 1, 1) := by decide +kernel
theorem dX3_init_26 : decode cX3_init 26 = .ok (.new 9, 3) := by decide +kernel
theorem dX3_init_29 : decode cX3_init 29 = .ok (.dup, 1) := by decide +kernel
theorem dX3_init_30 : decode cX3_init 30 = .ok (.invokespecial 17, 3) := by decide +kernel
theorem dX3_init_33 : decode cX3_init 33 = .ok (.aastore, 1) := by decide +kernel
theorem dX3_init_34 : decode cX3_init 34 = .ok (.iinc 1 1, 3) := by decide +kernel
theorem dX3_init_37 : decode cX3_init 37 = .ok (.goto (-22), 3) := by decide +kernel
theorem dX3_init_40 : decode cX3_init 40 = .ok (.return_, 1) := by decide +kernel
theorem dX3_push_0 : decode cX3_push 0 = .ok (.aload_n 0, 1) := by decide +kernel
theorem dX3_push_1 : decode cX3_push 1 = .ok (.getfield 11, 3) := by decide +kernel
theorem dX3_push_4 : decode cX3_push 4 = .ok (.aload_n 0, 1) := by decide +kernel
theorem dX3_push_5 : decode cX3_push 5 = .ok (.getfield 18, 3) := by decide +kernel
theorem dX3_push_8 : decode cX3_push 8 = .ok (.aaload, 1) := by decide +kernel
theorem dX3_push_9 : decode cX3_push 9 = .ok (.aload_n 1, 1) := by decide +kernel
theorem dX3_push_10 : decode cX3_push 10 = .ok (.invokevirtual 22, 3) := by decide +kernel
theorem dX3_push_13 : decode cX3_push 13 = .ok (.aload_n 0, 1) := by decide +kernel
theorem dX3_push_14 : decode cX3_push 14 = .ok (.aload_n 0, 1) := by decide +kernel
theorem dX3_push_15 : decode cX3_push 15 = .ok (.getfield 18, 3) := by decide +kernel
theorem dX3_push_18 : decode cX3_push 18 = .ok (.iconst 1, 1) := by decide +kernel
theorem dX3_push_19 : decode cX3_push 19 = .ok (.iadd, 1) := by decide +kernel
theorem dX3_push_20 : decode cX3_push 20 = .ok (.bipush 8, 2) := by decide +kernel
theorem dX3_push_22 : decode cX3_push 22 = .ok (.irem, 1) := by decide +kernel
theorem dX3_push_23 : decode cX3_push 23 = .ok (.putfield 18, 3) := by decide +kernel
theorem dX3_push_26 : decode cX3_push 26 = .ok (.aload_n 0, 1) := by decide +kernel
theorem dX3_push_27 : decode cX3_push 27 = .ok (.aload_n 0, 1) := by decide +kernel
theorem dX3_push_28 : decode cX3_push 28 = .ok (.getfield 26, 3) := by decide +kernel
theorem dX3_push_31 : decode cX3_push 31 = .ok (.iconst 1, 1) := by decide +kernel
theorem dX3_push_32 : decode cX3_push 32 = .ok (.iadd, 1) := by decide +kernel
theorem dX3_push_33 : decode cX3_push 33 = .ok (.bipush 8, 2) := by decide +kernel
theorem dX3_push_35 : decode cX3_push 35 = .ok (.invokestatic 29, 3) := by decide +kernel
theorem dX3_push_38 : decode cX3_push 38 = .ok (.putfield 26, 3) := by decide +kernel
theorem dX3_push_41 : decode cX3_push 41 = .ok (.return_, 1) := by decide +kernel
theorem dX3_popInto_0 : decode cX3_popInto 0 = .ok (.aload_n 0, 1) := by decide +kernel
theorem dX3_popInto_1 : decode cX3_popInto 1 = .ok (.aload_n 0, 1) := by decide +kernel
theorem dX3_popInto_2 : decode cX3_popInto 2 = .ok (.getfield 18, 3) := by decide +kernel
theorem dX3_popInto_5 : decode cX3_popInto 5 = .ok (.bipush 8, 2) := by decide +kernel
theorem dX3_popInto_7 : decode cX3_popInto 7 = .ok (.iadd, 1) := by decide +kernel
theorem dX3_popInto_8 : decode cX3_popInto 8 = .ok (.iconst 1, 1) := by decide +kernel
theorem dX3_popInto_9 : decode cX3_popInto 9 = .ok (.isub, 1) := by decide +kernel
theorem dX3_popInto_10 : decode cX3_popInto 10 = .ok (.bipush 8, 2) := by decide +kernel
theorem dX3_popInto_12 : decode cX3_popInto 12 = .ok (.irem, 1) := by decide +kernel
theorem dX3_popInto_13 : decode cX3_popInto 13 = .ok (.putfield 18, 3) := by decide +kernel
theorem dX3_popInto_16 : decode cX3_popInto 16 = .ok (.aload_n 0, 1) := by decide +kernel
theorem dX3_popInto_17 : decode cX3_popInto 17 = .ok (.dup, 1) := by decide +kernel
theorem dX3_popInto_18 : decode cX3_popInto 18 = .ok (.getfield 26, 3) := by decide +kernel
theorem dX3_popInto_21 : decode cX3_popInto 21 = .ok (.iconst 1, 1) := by decide +kernel
theorem dX3_popInto_22 : decode cX3_popInto 22 = .ok (.isub, 1) := by decide +kernel
theorem dX3_popInto_23 : decode cX3_popInto 23 = .ok (.putfield 26, 3) := by decide +kernel
theorem dX3_popInto_26 : decode cX3_popInto 26 = .ok (.aload_n 1, 1) := by decide +kernel
theorem dX3_popInto_27 : decode cX3_popInto 27 = .ok (.aload_n 0, 1) := by decide +kernel
theorem dX3_popInto_28 : decode cX3_popInto 28 = .ok (.getfield 11, 3) := by decide +kernel
theorem dX3_popInto_31 : decode cX3_popInto 31 = .ok (.aload_n 0, 1) := by decide +kernel
theorem dX3_popInto_32 : decode cX3_popInto 32 = .ok (.getfield 18, 3) := by decide +kernel
theorem dX3_popInto_35 : decode cX3_popInto 35 = .ok (.aaload, 1) := by decide +kernel
theorem dX3_popInto_36 : decode cX3_popInto 36 = .ok (.invokevirtual 22, 3) := by decide +kernel
theorem dX3_popInto_39 : decode cX3_popInto 39 = .ok (.return_, 1) := by decide +kernel
theorem dX3_discardAll_0 : decode cX3_discardAll 0 = .ok (.aload_n 0, 1) := by decide +kernel
theorem dX3_discardAll_1 : decode cX3_discardAll 1 = .ok (.iconst 0, 1) := by decide +kernel
theorem dX3_discardAll_2 : decode cX3_discardAll 2 = .ok (.putfield 26, 3) := by decide +kernel
theorem dX3_discardAll_5 : decode cX3_discardAll 5 = .ok (.return_, 1) := by decide +kernel
theorem dX4_init_0 : decode cX4_init 0 = .ok (.aload_n 0, 1) := by decide +kernel
theorem dX4_init_1 : decode cX4_init 1 = .ok (.invokespecial 3, 3) := by decide +kernel
theorem dX4_init_4 : decode cX4_init 4 = .ok (.aload_n 0, 1) := by decide +kernel
theorem dX4_init_5 : decode cX4_init 5 = .ok (.iconst 4, 1) := by decide +kernel
theorem dX4_init_6 : decode cX4_init 6 = .ok (.anewarray 9, 3) := by decide +kernel
theorem dX4_init_9 : decode cX4_init 9 = .ok (.putfield 11, 3) := by decide +kernel
theorem dX4_init_12 : decode cX4_init 12 = .ok (.aload_n 0, 1) := by decide +kernel
theorem dX4_init_13 : decode cX4_init 13 = .ok (.bipush 8, 2) := by decide +kernel
theorem dX4_init_15 : decode cX4_init 15 = .ok (.anewarray 17, 3) := by decide +kernel
theorem dX4_init_18 : decode cX4_init 18 = .ok (.putfield 19, 3) := by decide +kernel
theorem dX4_init_21 : decode cX4_init 21 = .ok (.aload_n 0, 1) := by decide +kernel
theorem dX4_init_22 : decode cX4_init 22 = .ok (.bipush 16, 2) := by decide +kernel
theorem dX4_init_24 : decode cX4_init 24 = .ok (.anewarray 23, 3) := by decide +kernel
theorem dX4_init_27 : decode cX4_init 27 = .ok (.putfield 25, 3) := by decide +kernel
theorem dX4_init_30 : decode cX4_init 30 = .ok (.iconst 0, 1) := by decide +kernel
theorem dX4_init_31 : decode cX4_init 31 = .ok (.istore_n 1, 1) := by decide +kernel
theorem dX4_init_32 : decode cX4_init 32 = .ok (.iload_n 1, 1) := by decide +kernel
theorem dX4_init_33 : decode cX4_init 33 = .ok (.iconst 4, 1) := by decide +kernel
theorem dX4_init_34 : decode cX4_init 34 = .ok (.if_icmp .ge 22, 3) := by decide +kernel
theorem dX4_init_37 : decode cX4_init 37 = .ok (.aload_n 0, 1) := by decide +kernel
theorem dX4_init_38 : decode cX4_init 38 = .ok (.getfield 11, 3) := by decide +kernel
theorem dX4_init_41 : decode cX4_init 41 = .ok (.iload_n 1, 1) := by decide +kernel
theorem dX4_init_42 : decode cX4_init 42 = .ok (.new 9, 3) := by decide +kernel
theorem dX4_init_45 : decode cX4_init 45 = .ok (.dup, 1) := by decide +kernel
theorem dX4_init_46 : decode cX4_init 46 = .ok (.invokespecial 29, 3) := by decide +kernel
theorem dX4_init_49 : decode cX4_init 49 = .ok (.aastore, 1) := by decide +kernel
theorem dX4_init_50 : decode cX4_init 50 = .ok (.iinc 1 1, 3) := by decide +kernel
theorem dX4_init_53 : decode cX4_init 53 = .ok (.goto (-21), 3) := by decide +kernel
theorem dX4_init_56 : decode cX4_init 56 = .ok (.iconst 0, 1) := by decide +kernel
theorem dX4_init_57 : decode cX4_init 57 = .ok (.istore_n 1, 1) := by decide +kernel
theorem dX4_init_58 : decode cX4_init 58 = .ok (.iload_n 1, 1) := by decide +kernel
theorem dX4_init_59 : decode cX4_init 59 = .ok (.bipush 8, 2) := by decide +kernel
theorem dX4_init_61 : decode cX4_init 61 = .ok (.if_icmp .ge 22, 3) := by decide +kernel
theorem dX4_init_64 : decode cX4_init 64 = .ok (.aload_n 0, 1) := by decide +kernel
theorem dX4_init_65 : decode cX4_init 65 = .ok (.getfield 19, 3) := by decide +kernel
theorem dX4_init_68 : decode cX4_init 68 = .ok (.iload_n 1, 1) := by decide +kernel
theorem dX4_init_69 : decode cX4_init 69 = .ok (.new 17, 3) := by decide +kernel
theorem dX4_init_72 : decode cX4_init 72 = .ok (.dup, 1) := by decide +kernel
theorem dX4_init_73 : decode cX4_init 73 = .ok (.invokespecial 30, 3) := by decide +kernel
theorem dX4_init_76 : decode cX4_init 76 = .ok (.aastore, 1) := by decide +kernel
theorem dX4_init_77 : decode cX4_init 77 = .ok (.iinc 1 1, 3) := by decide +kernel
theorem dX4_init_80 : decode cX4_init 80 = .ok (.goto (-22), 3) := by decide +kernel
theorem dX4_init_83 : decode cX4_init 83 = .ok (.iconst 0, 1) := by decide +kernel
theorem dX4_init_84 : decode cX4_init 84 = .ok (.istore_n 1, 1) := by decide +kernel
theorem dX4_init_85 : decode cX4_init 85 = .ok (.iload_n 1, 1) := by decide +kernel
theorem dX4_init_86 : decode cX4_init 86 = .ok (.bipush 16, 2) := by decide +kernel
theorem dX4_init_88 : decode cX4_init 88 = .ok (.if_icmp .ge 22, 3) := by decide +kernel
theorem dX4_init_91 : decode cX4_init 91 = .ok (.aload_n 0, 1) := by decide +kernel
theorem dX4_init_92 : decode cX4_init 92 = .ok (.getfield 25, 3) := by decide +kernel
theorem dX4_init_95 : decode cX4_init 95 = .ok (.iload_n 1, 1) := by decide +kernel
theorem dX4_init_96 : decode cX4_init 96 = .ok (.new 23, 3) := by decide +kernel
theorem dX4_init_99 : decode cX4_init 99 = .ok (.dup, 1) := by decide +kernel
theorem dX4_init_100 : decode cX4_init 100 = .ok (.invokespecial 31, 3) := by decide +kernel
theorem dX4_init_103 : decode cX4_init 103 = .ok (.aastore, 1) := by decide +kernel
theorem dX4_init_104 : decode cX4_init 104 = .ok (.iinc 1 1, 3) := by decide +kernel
theorem dX4_init_107 : decode cX4_init 107 = .ok (.goto (-22), 3) := by decide +kernel
theorem dX4_init_110 : decode cX4_init 110 = .ok (.aload_n 0, 1) := by decide +kernel
theorem dX4_init_111 : decode cX4_init 111 = .ok (.iconst 4, 1) := by decide +kernel
theorem dX4_init_112 : decode cX4_init 112 = .ok (.bipush 8, 2) := by decide +kernel
theorem dX4_init_114 : decode cX4_init 114 = .ok (.invokevirtual 32, 3) := by decide +kernel
theorem dX4_init_117 : decode cX4_init 117 = .ok (.return_, 1) := by decide +kernel
theorem dX4_reset_0 : decode cX4_reset 0 = .ok (.aload_n 0, 1) := by decide +kernel
theorem dX4_reset_1 : decode cX4_reset 1 = .ok (.iload_n 1, 1) := by decide +kernel
theorem dX4_reset_2 : decode cX4_reset 2 = .ok (.putfield 36, 3) := by decide +kernel
theorem dX4_reset_5 : decode cX4_reset 5 = .ok (.aload_n 0, 1) := by decide +kernel
theorem dX4_reset_6 : decode cX4_reset 6 = .ok (.iload_n 2, 1) := by decide +kernel
theorem dX4_reset_7 : decode cX4_reset 7 = .ok (.putfield 40, 3) := by decide +kernel
theorem dX4_reset_10 : decode cX4_reset 10 = .ok (.aload_n 0, 1) := by decide +kernel
theorem dX4_reset_11 : decode cX4_reset 11 = .ok (.iconst 0, 1) := by decide +kernel
theorem dX4_reset_12 : decode cX4_reset 12 = .ok (.putfield 43, 3) := by decide +kernel
theorem dX4_reset_15 : decode cX4_reset 15 = .ok (.aload_n 0, 1) := by decide +kernel
theorem dX4_reset_16 : decode cX4_reset 16 = .ok (.iconst 1, 1) := by decide +kernel
theorem dX4_reset_17 : decode cX4_reset 17 = .ok (.putfield 46, 3) := by decide +kernel
theorem dX4_reset_20 : decode cX4_reset 20 = .ok (.aload_n 0, 1) := by decide +kernel
theorem dX4_reset_21 : decode cX4_reset 21 = .ok (.iconst 0, 1) := by decide +kernel
theorem dX4_reset_22 : decode cX4_reset 22 = .ok (.putfield 49, 3) := by decide +kernel
theorem dX4_reset_25 : decode cX4_reset 25 = .ok (.aload_n 0, 1) := by decide +kernel
theorem dX4_reset_26 : decode cX4_reset 26 = .ok (.bipush 20, 2) := by decide +kernel
theorem dX4_reset_28 : decode cX4_reset 28 = .ok (.putfield 52, 3) := by decide +kernel
theorem dX4_reset_31 : decode cX4_reset 31 = .ok (.aload_n 0, 1) := by decide +kernel
theorem dX4_reset_32 : decode cX4_reset 32 = .ok (.iconst 2, 1) := by decide +kernel
theorem dX4_reset_33 : decode cX4_reset 33 = .ok (.putfield 55, 3) := by decide +kernel
theorem dX4_reset_36 : decode cX4_reset 36 = .ok (.aload_n 0, 1) := by decide +kernel
theorem dX4_reset_37 : decode cX4_reset 37 = .ok (.iconst 1, 1) := by decide +kernel
theorem dX4_reset_38 : decode cX4_reset 38 = .ok (.putfield 58, 3) := by decide +kernel
theorem dX4_reset_41 : decode cX4_reset 41 = .ok (.aload_n 0, 1) := by decide +kernel
theorem dX4_reset_42 : decode cX4_reset 42 = .ok (.iconst 0, 1) := by decide +kernel
theorem dX4_reset_43 : decode cX4_reset 43 = .ok (.putfield 61, 3) := by decide +kernel
theorem dX4_reset_46 : decode cX4_reset 46 = .ok (.iconst 0, 1) := by decide +kernel
theorem dX4_reset_47 : decode cX4_reset 47 = .ok (.istore_n 3, 1) := by decide +kernel
theorem dX4_reset_48 : decode cX4_reset 48 = .ok (.iload_n 3, 1) := by decide +kernel
theorem dX4_reset_49 : decode cX4_reset 49 = .ok (.iconst 4, 1) := by decide +kernel
theorem dX4_reset_50 : decode cX4_reset 50 = .ok (.if_icmp .ge 18, 3) := by decide +kernel
theorem dX4_reset_53 : decode cX4_reset 53 = .ok (.aload_n 0, 1) := by decide +kernel
theorem dX4_reset_54 : decode cX4_reset 54 = .ok (.getfield 11, 3) := by decide +kernel
theorem dX4_reset_57 : decode cX4_reset 57 = .ok (.iload_n 3, 1) := by decide +kernel
theorem dX4_reset_58 : decode cX4_reset 58 = .ok (.aaload, 1) := by decide +kernel
theorem dX4_reset_59 : decode cX4_reset 59 = .ok (.invokevirtual 64, 3) := by decide +kernel
theorem dX4_reset_62 : decode cX4_reset 62 = .ok (.iinc 3 1, 3) := by decide +kernel
theorem dX4_reset_65 : decode cX4_reset 65 = .ok (.goto (-17), 3) := by decide +kernel
theorem dX4_reset_68 : decode cX4_reset 68 = .ok (.iconst 0, 1) := by decide +kernel
theorem dX4_reset_69 : decode cX4_reset 69 = .ok (.istore_n 3, 1) := by decide +kernel
theorem dX4_reset_70 : decode cX4_reset 70 = .ok (.iload_n 3, 1) := by decide +kernel
theorem dX4_reset_71 : decode cX4_reset 71 = .ok (.bipush 8, 2) := by decide +kernel
theorem dX4_reset_73 : decode cX4_reset 73 = .ok (.if_icmp .ge 18, 3) := by decide +kernel
theorem dX4_reset_76 : decode cX4_reset 76 = .ok (.aload_n 0, 1) := by decide +kernel
theorem dX4_reset_77 : decode cX4_reset 77 = .ok (.getfield 19, 3) := by decide +kernel
theorem dX4_reset_80 : decode cX4_reset 80 = .ok (.iload_n 3, 1) := by decide +kernel
theorem dX4_reset_81 : decode cX4_reset 81 = .ok (.aaload, 1) := by decide +kernel
theorem dX4_reset_82 : decode cX4_reset 82 = .ok (.invokevirtual 66, 3) := by decide +kernel
theorem dX4_reset_85 : decode cX4_reset 85 = .ok (.iinc 3 1, 3) := by decide +kernel
theorem dX4_reset_88 : decode cX4_reset 88 = .ok (.goto (-18), 3) := by decide +kernel
theorem dX4_reset_91 : decode cX4_reset 91 = .ok (.iconst 0, 1) := by decide +kernel
theorem dX4_reset_92 : decode cX4_reset 92 = .ok (.istore_n 3, 1) := by decide +kernel
theorem dX4_reset_93 : decode cX4_reset 93 = .ok (.iload_n 3, 1) := by decide +kernel
theorem dX4_reset_94 : decode cX4_reset 94 = .ok (.bipush 16, 2) := by decide +kernel
theorem dX4_reset_96 : decode cX4_reset 96 = .ok (.if_icmp .ge 18, 3) := by decide +kernel
theorem dX4_reset_99 : decode cX4_reset 99 = .ok (.aload_n 0, 1) := by decide +kernel
theorem dX4_reset_100 : decode cX4_reset 100 = .ok (.getfield 25, 3) := by decide +kernel
theorem dX4_reset_103 : decode cX4_reset 103 = .ok (.iload_n 3, 1) := by decide +kernel
theorem dX4_reset_104 : decode cX4_reset 104 = .ok (.aaload, 1) := by decide +kernel
theorem dX4_reset_105 : decode cX4_reset 105 = .ok (.invokevirtual 67, 3) := by decide +kernel
theorem dX4_reset_108 : decode cX4_reset 108 = .ok (.iinc 3 1, 3) := by decide +kernel
theorem dX4_reset_111 : decode cX4_reset 111 = .ok (.goto (-18), 3) := by decide +kernel
theorem dX4_reset_114 : decode cX4_reset 114 = .ok (.return_, 1) := by decide +kernel
theorem dX4_copyFrom_0 : decode cX4_copyFrom 0 = .ok (.aload_n 0, 1) := by decide +kernel
theorem dX4_copyFrom_1 : decode cX4_copyFrom 1 = .ok (.aload_n 1, 1) := by decide +kernel
theorem dX4_copyFrom_2 : decode cX4_copyFrom 2 = .ok (.getfield 36, 3) := by decide +kernel
theorem dX4_copyFrom_5 : decode cX4_copyFrom 5 = .ok (.putfield 36, 3) := by decide +kernel
theorem dX4_copyFrom_8 : decode cX4_copyFrom 8 = .ok (.aload_n 0, 1) := by decide +kernel
theorem dX4_copyFrom_9 : decode cX4_copyFrom 9 = .ok (.aload_n 1, 1) := by decide +kernel
theorem dX4_copyFrom_10 : decode cX4_copyFrom 10 = .ok (.getfield 40, 3) := by decide +kernel
theorem dX4_copyFrom_13 : decode cX4_copyFrom 13 = .ok (.putfield 40, 3) := by decide +kernel
theorem dX4_copyFrom_16 : decode cX4_copyFrom 16 = .ok (.aload_n 0, 1) := by decide +kernel
theorem dX4_copyFrom_17 : decode cX4_copyFrom 17 = .ok (.aload_n 1, 1) := by decide +kernel
theorem dX4_copyFrom_18 : decode cX4_copyFrom 18 = .ok (.getfield 43, 3) := by decide +kernel
theorem dX4_copyFrom_21 : decode cX4_copyFrom 21 = .ok (.putfield 43, 3) := by decide +kernel
theorem dX4_copyFrom_24 : decode cX4_copyFrom 24 = .ok (.aload_n 0, 1) := by decide +kernel
theorem dX4_copyFrom_25 : decode cX4_copyFrom 25 = .ok (.aload_n 1, 1) := by decide +kernel
theorem dX4_copyFrom_26 : decode cX4_copyFrom 26 = .ok (.getfield 46, 3) := by decide +kernel
theorem dX4_copyFrom_29 : decode cX4_copyFrom 29 = .ok (.putfield 46, 3) := by decide +kernel
theorem dX4_copyFrom_32 : decode cX4_copyFrom 32 = .ok (.aload_n 0, 1) := by decide +kernel
theorem dX4_copyFrom_33 : decode cX4_copyFrom 33 = .ok (.aload_n 1, 1) := by decide +kernel
theorem dX4_copyFrom_34 : decode cX4_copyFrom 34 = .ok (.getfield 49, 3) := by decide +kernel
theorem dX4_copyFrom_37 : decode cX4_copyFrom 37 = .ok (.putfield 49, 3) := by decide +kernel
theorem dX4_copyFrom_40 : decode cX4_copyFrom 40 = .ok (.aload_n 0, 1) := by decide +kernel
theorem dX4_copyFrom_41 : decode cX4_copyFrom 41 = .ok (.aload_n 1, 1) := by decide +kernel
theorem dX4_copyFrom_42 : decode cX4_copyFrom 42 = .ok (.getfield 52, 3) := by decide +kernel
theorem dX4_copyFrom_45 : decode cX4_copyFrom 45 = .ok (.putfield 52, 3) := by decide +kernel
theorem dX4_copyFrom_48 : decode cX4_copyFrom 48 = .ok (.aload_n 0, 1) := by decide +kernel
theorem dX4_copyFrom_49 : decode cX4_copyFrom 49 = .ok (.aload_n 1, 1) := by decide +kernel
theorem dX4_copyFrom_50 : decode cX4_copyFrom 50 = .ok (.getfield 55, 3) := by decide +kernel
theorem dX4_copyFrom_53 : decode cX4_copyFrom 53 = .ok (.putfield 55, 3) := by decide +kernel
theorem dX4_copyFrom_56 : decode cX4_copyFrom 56 = .ok (.aload_n 0, 1) := by decide +kernel
theorem dX4_copyFrom_57 : decode cX4_copyFrom 57 = .ok (.aload_n 1, 1) := by decide +kernel
theorem dX4_copyFrom_58 : decode cX4_copyFrom 58 = .ok (.getfield 58, 3) := by decide +kernel
theorem dX4_copyFrom_61 : decode cX4_copyFrom 61 = .ok (.putfield 58, 3) := by decide +kernel
theorem dX4_copyFrom_64 : decode cX4_copyFrom 64 = .ok (.aload_n 0, 1) := by decide +kernel
theorem dX4_copyFrom_65 : decode cX4_copyFrom 65 = .ok (.aload_n 1, 1) := by decide +kernel
theorem dX4_copyFrom_66 : decode cX4_copyFrom 66 = .ok (.getfield 61, 3) := by decide +kernel
theorem dX4_copyFrom_69 : decode cX4_copyFrom 69 = .ok (.putfield 61, 3) := by decide +kernel
theorem dX4_copyFrom_72 : decode cX4_copyFrom 72 = .ok (.iconst 0, 1) := by decide +kernel
theorem dX4_copyFrom_73 : decode cX4_copyFrom 73 = .ok (.istore_n 2, 1) := by decide +kernel
theorem dX4_copyFrom_74 : decode cX4_copyFrom 74 = .ok (.iload_n 2, 1) := by decide +kernel
theorem dX4_copyFrom_75 : decode cX4_copyFrom 75 = .ok (.iconst 4, 1) := by decide +kernel
theorem dX4_copyFrom_76 : decode cX4_copyFrom 76 = .ok (.if_icmp .ge 24, 3) := by decide +kernel
theorem dX4_copyFrom_79 : decode cX4_copyFrom 79 = .ok (.aload_n 0, 1) := by decide +kernel
theorem dX4_copyFrom_80 : decode cX4_copyFrom 80 = .ok (.getfield 11, 3) := by decide +kernel
theorem dX4_copyFrom_83 : decode cX4_copyFrom 83 = .ok (.iload_n 2, 1) := by decide +kernel
theorem dX4_copyFrom_84 : decode cX4_copyFrom 84 = .ok (.aaload, 1) := by decide +kernel
theorem dX4_copyFrom_85 : decode cX4_copyFrom 85 = .ok (.aload_n 1, 1) := by decide +kernel
theorem dX4_copyFrom_86 : decode cX4_copyFrom 86 = .ok (.getfield 11, 3) := by decide +kernel
theorem dX4_copyFrom_89 : decode cX4_copyFrom 89 = .ok (.iload_n 2, 1) := by decide +kernel
theorem dX4_copyFrom_90 : decode cX4_copyFrom 90 = .ok (.aaload, 1) := by decide +kernel
theorem dX4_copyFrom_91 : decode cX4_copyFrom 91 = .ok (.invokevirtual 68, 3) := by decide +kernel
theorem dX4_copyFrom_94 : decode cX4_copyFrom 94 = .ok (.iinc 2 1, 3) := by decide +kernel
theorem dX4_copyFrom_97 : decode cX4_copyFrom 97 = .ok (.goto (-23), 3) := by decide +kernel
theorem dX4_copyFrom_100 : decode cX4_copyFrom 100 = .ok (.iconst 0, 1) := by decide +kernel
theorem dX4_copyFrom_101 : decode cX4_copyFrom 101 = .ok (.istore_n 2, 1) := by decide +kernel
theorem dX4_copyFrom_102 : decode cX4_copyFrom 102 = .ok (.iload_n 2, 1) := by decide +kernel
theorem dX4_copyFrom_103 : decode cX4_copyFrom 103 = .ok (.bipush 8, 2) := by decide +kernel
theorem dX4_copyFrom_105 : decode cX4_copyFrom 105 = .ok (.if_icmp .ge 24, 3) := by decide +kernel
theorem dX4_copyFrom_108 : decode cX4_copyFrom 108 = .ok (.aload_n 0, 1) := by decide +kernel
theorem dX4_copyFrom_109 : decode cX4_copyFrom 109 = .ok (.getfield 19, 3) := by decide +kernel
theorem dX4_copyFrom_112 : decode cX4_copyFrom 112 = .ok (.iload_n 2, 1) := by decide +kernel
theorem dX4_copyFrom_113 : decode cX4_copyFrom 113 = .ok (.aaload, 1) := by decide +kernel
theorem dX4_copyFrom_114 : decode cX4_copyFrom 114 = .ok (.aload_n 1, 1) := by decide +kernel
theorem dX4_copyFrom_115 : decode cX4_copyFrom 115 = .ok (.getfield 19, 3) := by decide +kernel
theorem dX4_copyFrom_118 : decode cX4_copyFrom 118 = .ok (.iload_n 2, 1) := by decide +kernel
theorem dX4_copyFrom_119 : decode cX4_copyFrom 119 = .ok (.aaload, 1) := by decide +kernel
theorem dX4_copyFrom_120 : decode cX4_copyFrom 120 = .ok (.invokevirtual 72, 3) := by decide +kernel
theorem dX4_copyFrom_123 : decode cX4_copyFrom 123 = .ok (.iinc 2 1, 3) := by decide +kernel
theorem dX4_copyFrom_126 : decode cX4_copyFrom 126 = .ok (.goto (-24), 3) := by decide +kernel
theorem dX4_copyFrom_129 : decode cX4_copyFrom 129 = .ok (.iconst 0, 1) := by decide +kernel
theorem dX4_copyFrom_130 : decode cX4_copyFrom 130 = .ok (.istore_n 2, 1) := by decide +kernel
theorem dX4_copyFrom_131 : decode cX4_copyFrom 131 = .ok (.iload_n 2, 1) := by decide +kernel
theorem dX4_copyFrom_132 : decode cX4_copyFrom 132 = .ok (.bipush 16, 2) := by decide +kernel
theorem dX4_copyFrom_134 : decode cX4_copyFrom 134 = .ok (.if_icmp .ge 24, 3) := by decide +kernel
theorem dX4_copyFrom_137 : decode cX4_copyFrom 137 = .ok (.aload_n 0, 1) := by decide +kernel
theorem dX4_copyFrom_138 : decode cX4_copyFrom 138 = .ok (.getfield 25, 3) := by decide +kernel
theorem dX4_copyFrom_141 : decode cX4_copyFrom 141 = .ok (.iload_n 2, 1) := by decide +kernel
theorem dX4_copyFrom_142 : decode cX4_copyFrom 142 = .ok (.aaload, 1) := by decide +kernel
theorem dX4_copyFrom_143 : decode cX4_copyFrom 143 = .ok (.aload_n 1, 1) := by decide +kernel
theorem dX4_copyFrom_144 : decode cX4_copyFrom 144 = .ok (.getfield 25, 3) := by decide +kernel
theorem dX4_copyFrom_147 : decode cX4_copyFrom 147 = .ok (.iload_n 2, 1) := by decide +kernel
theorem dX4_copyFrom_148 : decode cX4_copyFrom 148 = .ok (.aaload, 1) := by decide +kernel
theorem dX4_copyFrom_149 : decode cX4_copyFrom 149 = .ok (.invokevirtual 75, 3) := by decide +kernel
theorem dX4_copyFrom_152 : decode cX4_copyFrom 152 = .ok (.iinc 2 1, 3) := by decide +kernel
theorem dX4_copyFrom_155 : decode cX4_copyFrom 155 = .ok (.goto (-24), 3) := by decide +kernel
theorem dX4_copyFrom_158 : decode cX4_copyFrom 158 = .ok (.return_, 1) := by decide +kernel
theorem dX4_hasPath_0 : decode cX4_hasPath 0 = .ok (.iload_n 1, 1) := by decide +kernel
theorem dX4_hasPath_1 : decode cX4_hasPath 1 = .ok (.iconst 0, 1) := by decide +kernel
theorem dX4_hasPath_2 : decode cX4_hasPath 2 = .ok (.aload_n 0, 1) := by decide +kernel
theorem dX4_hasPath_3 : decode cX4_hasPath 3 = .ok (.getfield 36, 3) := by decide +kernel
theorem dX4_hasPath_6 : decode cX4_hasPath 6 = .ok (.iconst 1, 1) := by decide +kernel
theorem dX4_hasPath_7 : decode cX4_hasPath 7 = .ok (.isub, 1) := by decide +kernel
theorem dX4_hasPath_8 : decode cX4_hasPath 8 = .ok (.invokestatic 78, 3) := by decide +kernel
theorem dX4_hasPath_11 : decode cX4_hasPath 11 = .ok (.ireturn, 1) := by decide +kernel
theorem dX4_pathAt_0 : decode cX4_pathAt 0 = .ok (.aload_n 0, 1) := by decide +kernel
theorem dX4_pathAt_1 : decode cX4_pathAt 1 = .ok (.getfield 11, 3) := by decide +kernel
theorem dX4_pathAt_4 : decode cX4_pathAt 4 = .ok (.aload_n 0, 1) := by decide +kernel
theorem dX4_pathAt_5 : decode cX4_pathAt 5 = .ok (.iload_n 1, 1) := by decide +kernel
theorem dX4_pathAt_6 : decode cX4_pathAt 6 = .ok (.invokevirtual 82, 3) := by decide +kernel
theorem dX4_pathAt_9 : decode cX4_pathAt 9 = .ok (.ifCond .eq 7, 3) := by decide +kernel
theorem dX4_pathAt_12 : decode cX4_pathAt 12 = .ok (.iload_n 1, 1) := by decide +kernel
theorem dX4_pathAt_13 : decode cX4_pathAt 13 = .ok (.goto 4, 3) := by decide +kernel
theorem dX4_pathAt_16 : decode cX4_pathAt 16 = .ok (.iconst 0, 1) := by decide +kernel
theorem dX4_pathAt_17 : decode cX4_pathAt 17 = .ok (.aaload, 1) := by decide +kernel
theorem dX4_pathAt_18 : decode cX4_pathAt 18 = .ok (.areturn, 1) := by decide +kernel
theorem dX4_hasEntry_0 : decode cX4_hasEntry 0 = .ok (.iload_n 1, 1) := by decide +kernel
theorem dX4_hasEntry_1 : decode cX4_hasEntry 1 = .ok (.iconst 0, 1) := by decide +kernel
theorem dX4_hasEntry_2 : decode cX4_hasEntry 2 = .ok (.aload_n 0, 1) := by decide +kernel
theorem dX4_hasEntry_3 : decode cX4_hasEntry 3 = .ok (.getfield 40, 3) := by decide +kernel
theorem dX4_hasEntry_6 : decode cX4_hasEntry 6 = .ok (.iconst 1, 1) := by decide +kernel
theorem dX4_hasEntry_7 : decode cX4_hasEntry 7 = .ok (.isub, 1) := by decide +kernel
theorem dX4_hasEntry_8 : decode cX4_hasEntry 8 = .ok (.invokestatic 78, 3) := by decide +kernel
theorem dX4_hasEntry_11 : decode cX4_hasEntry 11 = .ok (.ireturn, 1) := by decide +kernel
theorem dX4_hasTimeFor_0 : decode cX4_hasTimeFor 0 = .ok (.iload_n 1, 1) := by decide +kernel
theorem dX4_hasTimeFor_1 : decode cX4_hasTimeFor 1 = .ok (.ldc 86, 2) := by decide +kernel
theorem dX4_hasTimeFor_3 : decode cX4_hasTimeFor 3 = .ok (.aload_n 0, 1) := by decide +kernel
theorem dX4_hasTimeFor_4 : decode cX4_hasTimeFor 4 = .ok (.getfield 43, 3) := by decide +kernel
theorem dX4_hasTimeFor_7 : decode cX4_hasTimeFor 7 = .ok (.isub, 1) := by decide +kernel
theorem dX4_hasTimeFor_8 : decode cX4_hasTimeFor 8 = .ok (.if_icmp .gt 7, 3) := by decide +kernel
theorem dX4_hasTimeFor_11 : decode cX4_hasTimeFor 11 = .ok (.iconst 1, 1) := by decide +kernel
theorem dX4_hasTimeFor_12 : decode cX4_hasTimeFor 12 = .ok (.goto 4, 3) := by decide +kernel
theorem dX4_hasTimeFor_15 : decode cX4_hasTimeFor 15 = .ok (.iconst 0, 1) := by decide +kernel
theorem dX4_hasTimeFor_16 : decode cX4_hasTimeFor 16 = .ok (.ireturn, 1) := by decide +kernel
theorem dX4_entryNumber_0 : decode cX4_entryNumber 0 = .ok (.bipush 7, 2) := by decide +kernel
theorem dX4_entryNumber_2 : decode cX4_entryNumber 2 = .ok (.iload_n 1, 1) := by decide +kernel
theorem dX4_entryNumber_3 : decode cX4_entryNumber 3 = .ok (.imul, 1) := by decide +kernel
theorem dX4_entryNumber_4 : decode cX4_entryNumber 4 = .ok (.iconst 3, 1) := by decide +kernel
theorem dX4_entryNumber_5 : decode cX4_entryNumber 5 = .ok (.iadd, 1) := by decide +kernel
theorem dX4_entryNumber_6 : decode cX4_entryNumber 6 = .ok (.aload_n 0, 1) := by decide +kernel
theorem dX4_entryNumber_7 : decode cX4_entryNumber 7 = .ok (.getfield 40, 3) := by decide +kernel
theorem dX4_entryNumber_10 : decode cX4_entryNumber 10 = .ok (.invokestatic 87, 3) := by decide +kernel
theorem dX4_entryNumber_13 : decode cX4_entryNumber 13 = .ok (.ireturn, 1) := by decide +kernel
theorem dX4_countFlowsOfEntry_0 : decode cX4_countFlowsOfEntry 0 = .ok (.iconst 0, 1) := by decide +kernel
theorem dX4_countFlowsOfEntry_1 : decode cX4_countFlowsOfEntry 1 = .ok (.istore_n 2, 1) := by decide +kernel
theorem dX4_countFlowsOfEntry_2 : decode cX4_countFlowsOfEntry 2 = .ok (.iconst 0, 1) := by decide +kernel
theorem dX4_countFlowsOfEntry_3 : decode cX4_countFlowsOfEntry 3 = .ok (.istore_n 3, 1) := by decide +kernel
theorem dX4_countFlowsOfEntry_4 : decode cX4_countFlowsOfEntry 4 = .ok (.iload_n 3, 1) := by decide +kernel
theorem dX4_countFlowsOfEntry_5 : decode cX4_countFlowsOfEntry 5 = .ok (.bipush 16, 2) := by decide +kernel
theorem dX4_countFlowsOfEntry_7 : decode cX4_countFlowsOfEntry 7 = .ok (.if_icmp .ge 21, 3) := by decide +kernel
theorem dX4_countFlowsOfEntry_10 : decode cX4_countFlowsOfEntry 10 = .ok (.aload_n 0, 1) := by decide +kernel
theorem dX4_countFlowsOfEntry_11 : decode cX4_countFlowsOfEntry 11 = .ok (.iload_n 3, 1) := by decide +kernel
theorem dX4_countFlowsOfEntry_12 : decode cX4_countFlowsOfEntry 12 = .ok (.invokevirtual 91, 3) := by decide +kernel
theorem dX4_countFlowsOfEntry_15 : decode cX4_countFlowsOfEntry 15 = .ok (.iload_n 1, 1) := by decide +kernel
theorem dX4_countFlowsOfEntry_16 : decode cX4_countFlowsOfEntry 16 = .ok (.if_icmp .ne 6, 3) := by decide +kernel
theorem dX4_countFlowsOfEntry_19 : decode cX4_countFlowsOfEntry 19 = .ok (.iinc 2 1, 3) := by decide +kernel
theorem dX4_countFlowsOfEntry_22 : decode cX4_countFlowsOfEntry 22 = .ok (.iinc 3 1, 3) := by decide +kernel
theorem dX4_countFlowsOfEntry_25 : decode cX4_countFlowsOfEntry 25 = .ok (.goto (-21), 3) := by decide +kernel
theorem dX4_countFlowsOfEntry_28 : decode cX4_countFlowsOfEntry 28 = .ok (.iload_n 2, 1) := by decide +kernel
theorem dX4_countFlowsOfEntry_29 : decode cX4_countFlowsOfEntry 29 = .ok (.ireturn, 1) := by decide +kernel
theorem dX4_isInUse_0 : decode cX4_isInUse 0 = .ok (.aload_n 1, 1) := by decide +kernel
theorem dX4_isInUse_1 : decode cX4_isInUse 1 = .ok (.getfield 95, 3) := by decide +kernel
theorem dX4_isInUse_4 : decode cX4_isInUse 4 = .ok (.ifCond .eq 31, 3) := by decide +kernel
theorem dX4_isInUse_7 : decode cX4_isInUse 7 = .ok (.aload_n 0, 1) := by decide +kernel
theorem dX4_isInUse_8 : decode cX4_isInUse 8 = .ok (.getfield 49, 3) := by decide +kernel
theorem dX4_isInUse_11 : decode cX4_isInUse 11 = .ok (.iconst 1, 1) := by decide +kernel
theorem dX4_isInUse_12 : decode cX4_isInUse 12 = .ok (.if_icmp .eq 19, 3) := by decide +kernel
theorem dX4_isInUse_15 : decode cX4_isInUse 15 = .ok (.aload_n 0, 1) := by decide +kernel
theorem dX4_isInUse_16 : decode cX4_isInUse 16 = .ok (.getfield 43, 3) := by decide +kernel
theorem dX4_isInUse_19 : decode cX4_isInUse 19 = .ok (.aload_n 1, 1) := by decide +kernel
theorem dX4_isInUse_20 : decode cX4_isInUse 20 = .ok (.getfield 99, 3) := by decide +kernel
theorem dX4_isInUse_23 : decode cX4_isInUse 23 = .ok (.isub, 1) := by decide +kernel
theorem dX4_isInUse_24 : decode cX4_isInUse 24 = .ok (.aload_n 0, 1) := by decide +kernel
theorem dX4_isInUse_25 : decode cX4_isInUse 25 = .ok (.getfield 52, 3) := by decide +kernel
theorem dX4_isInUse_28 : decode cX4_isInUse 28 = .ok (.if_icmp .gt 7, 3) := by decide +kernel
theorem dX4_isInUse_31 : decode cX4_isInUse 31 = .ok (.iconst 1, 1) := by decide +kernel
theorem dX4_isInUse_32 : decode cX4_isInUse 32 = .ok (.goto 4, 3) := by decide +kernel
theorem dX4_isInUse_35 : decode cX4_isInUse 35 = .ok (.iconst 0, 1) := by decide +kernel
theorem dX4_isInUse_36 : decode cX4_isInUse 36 = .ok (.ireturn, 1) := by decide +kernel
theorem dX4_countEntriesInUse_0 : decode cX4_countEntriesInUse 0 = .ok (.iconst 0, 1) := by decide +kernel
theorem dX4_countEntriesInUse_1 : decode cX4_countEntriesInUse 1 = .ok (.istore_n 1, 1) := by decide +kernel
theorem dX4_countEntriesInUse_2 : decode cX4_countEntriesInUse 2 = .ok (.iconst 0, 1) := by decide +kernel
theorem dX4_countEntriesInUse_3 : decode cX4_countEntriesInUse 3 = .ok (.istore_n 2, 1) := by decide +kernel
theorem dX4_countEntriesInUse_4 : decode cX4_countEntriesInUse 4 = .ok (.iload_n 2, 1) := by decide +kernel
theorem dX4_countEntriesInUse_5 : decode cX4_countEntriesInUse 5 = .ok (.aload_n 0, 1) := by decide +kernel
theorem dX4_countEntriesInUse_6 : decode cX4_countEntriesInUse 6 = .ok (.getfield 40, 3) := by decide +kernel
theorem dX4_countEntriesInUse_9 : decode cX4_countEntriesInUse 9 = .ok (.if_icmp .ge 25, 3) := by decide +kernel
theorem dX4_countEntriesInUse_12 : decode cX4_countEntriesInUse 12 = .ok (.aload_n 0, 1) := by decide +kernel
theorem dX4_countEntriesInUse_13 : decode cX4_countEntriesInUse 13 = .ok (.aload_n 0, 1) := by decide +kernel
theorem dX4_countEntriesInUse_14 : decode cX4_countEntriesInUse 14 = .ok (.getfield 19, 3) := by decide +kernel
theorem dX4_countEntriesInUse_17 : decode cX4_countEntriesInUse 17 = .ok (.iload_n 2, 1) := by decide +kernel
theorem dX4_countEntriesInUse_18 : decode cX4_countEntriesInUse 18 = .ok (.aaload, 1) := by decide +kernel
theorem dX4_countEntriesInUse_19 : decode cX4_countEntriesInUse 19 = .ok (.invokevirtual 102, 3) := by decide +kernel
theorem dX4_countEntriesInUse_22 : decode cX4_countEntriesInUse 22 = .ok (.ifCond .eq 6, 3) := by decide +kernel
theorem dX4_countEntriesInUse_25 : decode cX4_countEntriesInUse 25 = .ok (.iinc 1 1, 3) := by decide +kernel
theorem dX4_countEntriesInUse_28 : decode cX4_countEntriesInUse 28 = .ok (.iinc 2 1, 3) := by decide +kernel
theorem dX4_countEntriesInUse_31 : decode cX4_countEntriesInUse 31 = .ok (.goto (-27), 3) := by decide +kernel
theorem dX4_countEntriesInUse_34 : decode cX4_countEntriesInUse 34 = .ok (.iload_n 1, 1) := by decide +kernel
theorem dX4_countEntriesInUse_35 : decode cX4_countEntriesInUse 35 = .ok (.ireturn, 1) := by decide +kernel
theorem dX4_spreadOfLatencies_0 : decode cX4_spreadOfLatencies 0 = .ok (.aload_n 0, 1) := by decide +kernel
theorem dX4_spreadOfLatencies_1 : decode cX4_spreadOfLatencies 1 = .ok (.getfield 11, 3) := by decide +kernel
theorem dX4_spreadOfLatencies_4 : decode cX4_spreadOfLatencies 4 = .ok (.iconst 0, 1) := by decide +kernel
theorem dX4_spreadOfLatencies_5 : decode cX4_spreadOfLatencies 5 = .ok (.aaload, 1) := by decide +kernel
theorem dX4_spreadOfLatencies_6 : decode cX4_spreadOfLatencies 6 = .ok (.aload_n 0, 1) := by decide +kernel
theorem dX4_spreadOfLatencies_7 : decode cX4_spreadOfLatencies 7 = .ok (.getfield 43, 3) := by decide +kernel
theorem dX4_spreadOfLatencies_10 : decode cX4_spreadOfLatencies 10 = .ok (.iload_n 1, 1) := by decide +kernel
theorem dX4_spreadOfLatencies_11 : decode cX4_spreadOfLatencies 11 = .ok (.invokevirtual 106, 3) := by decide +kernel
theorem dX4_spreadOfLatencies_14 : decode cX4_spreadOfLatencies 14 = .ok (.istore_n 2, 1) := by decide +kernel
theorem dX4_spreadOfLatencies_15 : decode cX4_spreadOfLatencies 15 = .ok (.iload_n 2, 1) := by decide +kernel
theorem dX4_spreadOfLatencies_16 : decode cX4_spreadOfLatencies 16 = .ok (.istore_n 3, 1) := by decide +kernel
theorem dX4_spreadOfLatencies_17 : decode cX4_spreadOfLatencies 17 = .ok (.iconst 1, 1) := by decide +kernel
theorem dX4_spreadOfLatencies_18 : decode cX4_spreadOfLatencies 18 = .ok (.istore 4, 2) := by decide +kernel
theorem dX4_spreadOfLatencies_20 : decode cX4_spreadOfLatencies 20 = .ok (.iload 4, 2) := by decide +kernel
theorem dX4_spreadOfLatencies_22 : decode cX4_spreadOfLatencies 22 = .ok (.aload_n 0, 1) := by decide +kernel
theorem dX4_spreadOfLatencies_23 : decode cX4_spreadOfLatencies 23 = .ok (.getfield 36, 3) := by decide +kernel
theorem dX4_spreadOfLatencies_26 : decode cX4_spreadOfLatencies 26 = .ok (.if_icmp .ge 40, 3) := by decide +kernel
theorem dX4_spreadOfLatencies_29 : decode cX4_spreadOfLatencies 29 = .ok (.aload_n 0, 1) := by decide +kernel
theorem dX4_spreadOfLatencies_30 : decode cX4_spreadOfLatencies 30 = .ok (.getfield 11, 3) := by decide +kernel
theorem dX4_spreadOfLatencies_33 : decode cX4_spreadOfLatencies 33 = .ok (.iload 4, 2) := by decide +kernel
theorem dX4_spreadOfLatencies_35 : decode cX4_spreadOfLatencies 35 = .ok (.aaload, 1) := by decide +kernel
theorem dX4_spreadOfLatencies_36 : decode cX4_spreadOfLatencies 36 = .ok (.aload_n 0, 1) := by decide +kernel
theorem dX4_spreadOfLatencies_37 : decode cX4_spreadOfLatencies 37 = .ok (.getfield 43, 3) := by decide +kernel
theorem dX4_spreadOfLatencies_40 : decode cX4_spreadOfLatencies 40 = .ok (.iload_n 1, 1) := by decide +kernel
theorem dX4_spreadOfLatencies_41 : decode cX4_spreadOfLatencies 41 = .ok (.invokevirtual 106, 3) := by decide +kernel
theorem dX4_spreadOfLatencies_44 : decode cX4_spreadOfLatencies 44 = .ok (.istore 5, 2) := by decide +kernel
theorem dX4_spreadOfLatencies_46 : decode cX4_spreadOfLatencies 46 = .ok (.iload_n 2, 1) := by decide +kernel
theorem dX4_spreadOfLatencies_47 : decode cX4_spreadOfLatencies 47 = .ok (.iload 5, 2) := by decide +kernel
theorem dX4_spreadOfLatencies_49 : decode cX4_spreadOfLatencies 49 = .ok (.invokestatic 109, 3) := by decide +kernel
theorem dX4_spreadOfLatencies_52 : decode cX4_spreadOfLatencies 52 = .ok (.istore_n 2, 1) := by decide +kernel
theorem dX4_spreadOfLatencies_53 : decode cX4_spreadOfLatencies 53 = .ok (.iload_n 3, 1) := by decide +kernel
theorem dX4_spreadOfLatencies_54 : decode cX4_spreadOfLatencies 54 = .ok (.iload 5, 2) := by decide +kernel
theorem dX4_spreadOfLatencies_56 : decode cX4_spreadOfLatencies 56 = .ok (.invokestatic 114, 3) := by decide +kernel
theorem dX4_spreadOfLatencies_59 : decode cX4_spreadOfLatencies 59 = .ok (.istore_n 3, 1) := by decide +kernel
theorem dX4_spreadOfLatencies_60 : decode cX4_spreadOfLatencies 60 = .ok (.iinc 4 1, 3) := by decide +kernel
theorem dX4_spreadOfLatencies_63 : decode cX4_spreadOfLatencies 63 = .ok (.goto (-43), 3) := by decide +kernel
theorem dX4_spreadOfLatencies_66 : decode cX4_spreadOfLatencies 66 = .ok (.iload_n 3, 1) := by decide +kernel
theorem dX4_spreadOfLatencies_67 : decode cX4_spreadOfLatencies 67 = .ok (.iload_n 2, 1) := by decide +kernel
theorem dX4_spreadOfLatencies_68 : decode cX4_spreadOfLatencies 68 = .ok (.isub, 1) := by decide +kernel
theorem dX4_spreadOfLatencies_69 : decode cX4_spreadOfLatencies 69 = .ok (.ireturn, 1) := by decide +kernel
theorem dX4_spreadOfBytes_0 : decode cX4_spreadOfBytes 0 = .ok (.aload_n 0, 1) := by decide +kernel
theorem dX4_spreadOfBytes_1 : decode cX4_spreadOfBytes 1 = .ok (.getfield 11, 3) := by decide +kernel
theorem dX4_spreadOfBytes_4 : decode cX4_spreadOfBytes 4 = .ok (.iconst 0, 1) := by decide +kernel
theorem dX4_spreadOfBytes_5 : decode cX4_spreadOfBytes 5 = .ok (.aaload, 1) := by decide +kernel
theorem dX4_spreadOfBytes_6 : decode cX4_spreadOfBytes 6 = .ok (.getfield 117, 3) := by decide +kernel
theorem dX4_spreadOfBytes_9 : decode cX4_spreadOfBytes 9 = .ok (.istore_n 1, 1) := by decide +kernel
theorem dX4_spreadOfBytes_10 : decode cX4_spreadOfBytes 10 = .ok (.iload_n 1, 1) := by decide +kernel
theorem dX4_spreadOfBytes_11 : decode cX4_spreadOfBytes 11 = .ok (.istore_n 2, 1) := by decide +kernel
theorem dX4_spreadOfBytes_12 : decode cX4_spreadOfBytes 12 = .ok (.iconst 1, 1) := by decide +kernel
theorem dX4_spreadOfBytes_13 : decode cX4_spreadOfBytes 13 = .ok (.istore_n 3, 1) := by decide +kernel
theorem dX4_spreadOfBytes_14 : decode cX4_spreadOfBytes 14 = .ok (.iload_n 3, 1) := by decide +kernel
theorem dX4_spreadOfBytes_15 : decode cX4_spreadOfBytes 15 = .ok (.aload_n 0, 1) := by decide +kernel
theorem dX4_spreadOfBytes_16 : decode cX4_spreadOfBytes 16 = .ok (.getfield 36, 3) := by decide +kernel
theorem dX4_spreadOfBytes_19 : decode cX4_spreadOfBytes 19 = .ok (.if_icmp .ge 37, 3) := by decide +kernel
theorem dX4_spreadOfBytes_22 : decode cX4_spreadOfBytes 22 = .ok (.iload_n 1, 1) := by decide +kernel
theorem dX4_spreadOfBytes_23 : decode cX4_spreadOfBytes 23 = .ok (.aload_n 0, 1) := by decide +kernel
theorem dX4_spreadOfBytes_24 : decode cX4_spreadOfBytes 24 = .ok (.getfield 11, 3) := by decide +kernel
theorem dX4_spreadOfBytes_27 : decode cX4_spreadOfBytes 27 = .ok (.iload_n 3, 1) := by decide +kernel
theorem dX4_spreadOfBytes_28 : decode cX4_spreadOfBytes 28 = .ok (.aaload, 1) := by decide +kernel
theorem dX4_spreadOfBytes_29 : decode cX4_spreadOfBytes 29 = .ok (.getfield 117, 3) := by decide +kernel
theorem dX4_spreadOfBytes_32 : decode cX4_spreadOfBytes 32 = .ok (.invokestatic 109, 3) := by decide +kernel
theorem dX4_spreadOfBytes_35 : decode cX4_spreadOfBytes 35 = .ok (.istore_n 1, 1) := by decide +kernel
theorem dX4_spreadOfBytes_36 : decode cX4_spreadOfBytes 36 = .ok (.iload_n 2, 1) := by decide +kernel
theorem dX4_spreadOfBytes_37 : decode cX4_spreadOfBytes 37 = .ok (.aload_n 0, 1) := by decide +kernel
theorem dX4_spreadOfBytes_38 : decode cX4_spreadOfBytes 38 = .ok (.getfield 11, 3) := by decide +kernel
theorem dX4_spreadOfBytes_41 : decode cX4_spreadOfBytes 41 = .ok (.iload_n 3, 1) := by decide +kernel
theorem dX4_spreadOfBytes_42 : decode cX4_spreadOfBytes 42 = .ok (.aaload, 1) := by decide +kernel
theorem dX4_spreadOfBytes_43 : decode cX4_spreadOfBytes 43 = .ok (.getfield 117, 3) := by decide +kernel
theorem dX4_spreadOfBytes_46 : decode cX4_spreadOfBytes 46 = .ok (.invokestatic 114, 3) := by decide +kernel
theorem dX4_spreadOfBytes_49 : decode cX4_spreadOfBytes 49 = .ok (.istore_n 2, 1) := by decide +kernel
theorem dX4_spreadOfBytes_50 : decode cX4_spreadOfBytes 50 = .ok (.iinc 3 1, 3) := by decide +kernel
theorem dX4_spreadOfBytes_53 : decode cX4_spreadOfBytes 53 = .ok (.goto (-39), 3) := by decide +kernel
theorem dX4_spreadOfBytes_56 : decode cX4_spreadOfBytes 56 = .ok (.iload_n 2, 1) := by decide +kernel
theorem dX4_spreadOfBytes_57 : decode cX4_spreadOfBytes 57 = .ok (.iload_n 1, 1) := by decide +kernel
theorem dX4_spreadOfBytes_58 : decode cX4_spreadOfBytes 58 = .ok (.isub, 1) := by decide +kernel
theorem dX4_spreadOfBytes_59 : decode cX4_spreadOfBytes 59 = .ok (.ireturn, 1) := by decide +kernel
theorem dX4_letTimePass_0 : decode cX4_letTimePass 0 = .ok (.iconst 0, 1) := by decide +kernel
theorem dX4_letTimePass_1 : decode cX4_letTimePass 1 = .ok (.istore_n 2, 1) := by decide +kernel
theorem dX4_letTimePass_2 : decode cX4_letTimePass 2 = .ok (.iload_n 2, 1) := by decide +kernel
theorem dX4_letTimePass_3 : decode cX4_letTimePass 3 = .ok (.iload_n 1, 1) := by decide +kernel
theorem dX4_letTimePass_4 : decode cX4_letTimePass 4 = .ok (.if_icmp .ge 59, 3) := by decide +kernel
theorem dX4_letTimePass_7 : decode cX4_letTimePass 7 = .ok (.aload_n 0, 1) := by decide +kernel
theorem dX4_letTimePass_8 : decode cX4_letTimePass 8 = .ok (.dup, 1) := by decide +kernel
theorem dX4_letTimePass_9 : decode cX4_letTimePass 9 = .ok (.getfield 43, 3) := by decide +kernel
theorem dX4_letTimePass_12 : decode cX4_letTimePass 12 = .ok (.iconst 1, 1) := by decide +kernel
theorem dX4_letTimePass_13 : decode cX4_letTimePass 13 = .ok (.iadd, 1) := by decide +kernel
theorem dX4_letTimePass_14 : decode cX4_letTimePass 14 = .ok (.putfield 43, 3) := by decide +kernel
theorem dX4_letTimePass_17 : decode cX4_letTimePass 17 = .ok (.aload_n 0, 1) := by decide +kernel
theorem dX4_letTimePass_18 : decode cX4_letTimePass 18 = .ok (.getfield 43, 3) := by decide +kernel
theorem dX4_letTimePass_21 : decode cX4_letTimePass 21 = .ok (.bipush 10, 2) := by decide +kernel
theorem dX4_letTimePass_23 : decode cX4_letTimePass 23 = .ok (.irem, 1) := by decide +kernel
theorem dX4_letTimePass_24 : decode cX4_letTimePass 24 = .ok (.ifCond .ne 7, 3) := by decide +kernel
theorem dX4_letTimePass_27 : decode cX4_letTimePass 27 = .ok (.aload_n 0, 1) := by decide +kernel
theorem dX4_letTimePass_28 : decode cX4_letTimePass 28 = .ok (.invokevirtual 120, 3) := by decide +kernel
theorem dX4_letTimePass_31 : decode cX4_letTimePass 31 = .ok (.aload_n 0, 1) := by decide +kernel
theorem dX4_letTimePass_32 : decode cX4_letTimePass 32 = .ok (.getfield 49, 3) := by decide +kernel
theorem dX4_letTimePass_35 : decode cX4_letTimePass 35 = .ok (.iconst 1, 1) := by decide +kernel
theorem dX4_letTimePass_36 : decode cX4_letTimePass 36 = .ok (.if_icmp .ne 21, 3) := by decide +kernel
theorem dX4_letTimePass_39 : decode cX4_letTimePass 39 = .ok (.aload_n 0, 1) := by decide +kernel
theorem dX4_letTimePass_40 : decode cX4_letTimePass 40 = .ok (.getfield 43, 3) := by decide +kernel
theorem dX4_letTimePass_43 : decode cX4_letTimePass 43 = .ok (.aload_n 0, 1) := by decide +kernel
theorem dX4_letTimePass_44 : decode cX4_letTimePass 44 = .ok (.getfield 52, 3) := by decide +kernel
theorem dX4_letTimePass_47 : decode cX4_letTimePass 47 = .ok (.invokestatic 87, 3) := by decide +kernel
theorem dX4_letTimePass_50 : decode cX4_letTimePass 50 = .ok (.ifCond .ne 7, 3) := by decide +kernel
theorem dX4_letTimePass_53 : decode cX4_letTimePass 53 = .ok (.aload_n 0, 1) := by decide +kernel
theorem dX4_letTimePass_54 : decode cX4_letTimePass 54 = .ok (.invokevirtual 123, 3) := by decide +kernel
theorem dX4_letTimePass_57 : decode cX4_letTimePass 57 = .ok (.iinc 2 1, 3) := by decide +kernel
theorem dX4_letTimePass_60 : decode cX4_letTimePass 60 = .ok (.goto (-58), 3) := by decide +kernel
theorem dX4_letTimePass_63 : decode cX4_letTimePass 63 = .ok (.return_, 1) := by decide +kernel
theorem dX4_decayLoads_0 : decode cX4_decayLoads 0 = .ok (.iconst 0, 1) := by decide +kernel
theorem dX4_decayLoads_1 : decode cX4_decayLoads 1 = .ok (.istore_n 1, 1) := by decide +kernel
theorem dX4_decayLoads_2 : decode cX4_decayLoads 2 = .ok (.iload_n 1, 1) := by decide +kernel
theorem dX4_decayLoads_3 : decode cX4_decayLoads 3 = .ok (.aload_n 0, 1) := by decide +kernel
theorem dX4_decayLoads_4 : decode cX4_decayLoads 4 = .ok (.getfield 36, 3) := by decide +kernel
theorem dX4_decayLoads_7 : decode cX4_decayLoads 7 = .ok (.if_icmp .ge 22, 3) := by decide +kernel
theorem dX4_decayLoads_10 : decode cX4_decayLoads 10 = .ok (.aload_n 0, 1) := by decide +kernel
theorem dX4_decayLoads_11 : decode cX4_decayLoads 11 = .ok (.getfield 11, 3) := by decide +kernel
theorem dX4_decayLoads_14 : decode cX4_decayLoads 14 = .ok (.iload_n 1, 1) := by decide +kernel
theorem dX4_decayLoads_15 : decode cX4_decayLoads 15 = .ok (.aaload, 1) := by decide +kernel
theorem dX4_decayLoads_16 : decode cX4_decayLoads 16 = .ok (.aload_n 0, 1) := by decide +kernel
theorem dX4_decayLoads_17 : decode cX4_decayLoads 17 = .ok (.getfield 55, 3) := by decide +kernel
theorem dX4_decayLoads_20 : decode cX4_decayLoads 20 = .ok (.invokevirtual 126, 3) := by decide +kernel
theorem dX4_decayLoads_23 : decode cX4_decayLoads 23 = .ok (.iinc 1 1, 3) := by decide +kernel
theorem dX4_decayLoads_26 : decode cX4_decayLoads 26 = .ok (.goto (-24), 3) := by decide +kernel
theorem dX4_decayLoads_29 : decode cX4_decayLoads 29 = .ok (.return_, 1) := by decide +kernel
theorem dX4_ageEntries_0 : decode cX4_ageEntries 0 = .ok (.iconst 0, 1) := by decide +kernel
theorem dX4_ageEntries_1 : decode cX4_ageEntries 1 = .ok (.istore_n 1, 1) := by decide +kernel
theorem dX4_ageEntries_2 : decode cX4_ageEntries 2 = .ok (.iload_n 1, 1) := by decide +kernel
theorem dX4_ageEntries_3 : decode cX4_ageEntries 3 = .ok (.aload_n 0, 1) := by decide +kernel
theorem dX4_ageEntries_4 : decode cX4_ageEntries 4 = .ok (.getfield 40, 3) := by decide +kernel
theorem dX4_ageEntries_7 : decode cX4_ageEntries 7 = .ok (.if_icmp .ge 18, 3) := by decide +kernel
theorem dX4_ageEntries_10 : decode cX4_ageEntries 10 = .ok (.aload_n 0, 1) := by decide +kernel
theorem dX4_ageEntries_11 : decode cX4_ageEntries 11 = .ok (.getfield 19, 3) := by decide +kernel
theorem dX4_ageEntries_14 : decode cX4_ageEntries 14 = .ok (.iload_n 1, 1) := by decide +kernel
theorem dX4_ageEntries_15 : decode cX4_ageEntries 15 = .ok (.aaload, 1) := by decide +kernel
theorem dX4_ageEntries_16 : decode cX4_ageEntries 16 = .ok (.invokevirtual 130, 3) := by decide +kernel
theorem dX4_ageEntries_19 : decode cX4_ageEntries 19 = .ok (.iinc 1 1, 3) := by decide +kernel
theorem dX4_ageEntries_22 : decode cX4_ageEntries 22 = .ok (.goto (-20), 3) := by decide +kernel
theorem dX4_ageEntries_25 : decode cX4_ageEntries 25 = .ok (.return_, 1) := by decide +kernel
theorem dX4_usesTable_0 : decode cX4_usesTable 0 = .ok (.aload_n 0, 1) := by decide +kernel
theorem dX4_usesTable_1 : decode cX4_usesTable 1 = .ok (.getfield 46, 3) := by decide +kernel
theorem dX4_usesTable_4 : decode cX4_usesTable 4 = .ok (.iconst 1, 1) := by decide +kernel
theorem dX4_usesTable_5 : decode cX4_usesTable 5 = .ok (.if_icmp .eq 11, 3) := by decide +kernel
theorem dX4_usesTable_8 : decode cX4_usesTable 8 = .ok (.aload_n 0, 1) := by decide +kernel
theorem dX4_usesTable_9 : decode cX4_usesTable 9 = .ok (.getfield 46, 3) := by decide +kernel
theorem dX4_usesTable_12 : decode cX4_usesTable 12 = .ok (.iconst 3, 1) := by decide +kernel
theorem dX4_usesTable_13 : decode cX4_usesTable 13 = .ok (.if_icmp .ne 7, 3) := by decide +kernel
theorem dX4_usesTable_16 : decode cX4_usesTable 16 = .ok (.iconst 1, 1) := by decide +kernel
theorem dX4_usesTable_17 : decode cX4_usesTable 17 = .ok (.goto 4, 3) := by decide +kernel
theorem dX4_usesTable_20 : decode cX4_usesTable 20 = .ok (.iconst 0, 1) := by decide +kernel
theorem dX4_usesTable_21 : decode cX4_usesTable 21 = .ok (.ireturn, 1) := by decide +kernel
theorem dX4_pathFor_0 : decode cX4_pathFor 0 = .ok (.aload_n 0, 1) := by decide +kernel
theorem dX4_pathFor_1 : decode cX4_pathFor 1 = .ok (.getfield 46, 3) := by decide +kernel
theorem dX4_pathFor_4 : decode cX4_pathFor 4 = .ok (.ifCond .ne 12, 3) := by decide +kernel
theorem dX4_pathFor_7 : decode cX4_pathFor 7 = .ok (.iload_n 1, 1) := by decide +kernel
theorem dX4_pathFor_8 : decode cX4_pathFor 8 = .ok (.aload_n 0, 1) := by decide +kernel
theorem dX4_pathFor_9 : decode cX4_pathFor 9 = .ok (.getfield 36, 3) := by decide +kernel
theorem dX4_pathFor_12 : decode cX4_pathFor 12 = .ok (.invokestatic 87, 3) := by decide +kernel
theorem dX4_pathFor_15 : decode cX4_pathFor 15 = .ok (.ireturn, 1) := by decide +kernel
theorem dX4_pathFor_16 : decode cX4_pathFor 16 = .ok (.aload_n 0, 1) := by decide +kernel
theorem dX4_pathFor_17 : decode cX4_pathFor 17 = .ok (.getfield 46, 3) := by decide +kernel
theorem dX4_pathFor_20 : decode cX4_pathFor 20 = .ok (.iconst 2, 1) := by decide +kernel
theorem dX4_pathFor_21 : decode cX4_pathFor 21 = .ok (.if_icmp .ne 8, 3) := by decide +kernel
theorem dX4_pathFor_24 : decode cX4_pathFor 24 = .ok (.aload_n 0, 1) := by decide +kernel
theorem dX4_pathFor_25 : decode cX4_pathFor 25 = .ok (.getfield 61, 3) := by decide +kernel
theorem dX4_pathFor_28 : decode cX4_pathFor 28 = .ok (.ireturn, 1) := by decide +kernel
theorem dX4_pathFor_29 : decode cX4_pathFor 29 = .ok (.aload_n 0, 1) := by decide +kernel
theorem dX4_pathFor_30 : decode cX4_pathFor 30 = .ok (.getfield 19, 3) := by decide +kernel
theorem dX4_pathFor_33 : decode cX4_pathFor 33 = .ok (.aload_n 0, 1) := by decide +kernel
theorem dX4_pathFor_34 : decode cX4_pathFor 34 = .ok (.iload_n 1, 1) := by decide +kernel
theorem dX4_pathFor_35 : decode cX4_pathFor 35 = .ok (.invokevirtual 91, 3) := by decide +kernel
theorem dX4_pathFor_38 : decode cX4_pathFor 38 = .ok (.aaload, 1) := by decide +kernel
theorem dX4_pathFor_39 : decode cX4_pathFor 39 = .ok (.astore_n 2, 1) := by decide +kernel
theorem dX4_pathFor_40 : decode cX4_pathFor 40 = .ok (.aload_n 0, 1) := by decide +kernel
theorem dX4_pathFor_41 : decode cX4_pathFor 41 = .ok (.aload_n 2, 1) := by decide +kernel
theorem dX4_pathFor_42 : decode cX4_pathFor 42 = .ok (.invokevirtual 102, 3) := by decide +kernel
theorem dX4_pathFor_45 : decode cX4_pathFor 45 = .ok (.ifCond .eq 8, 3) := by decide +kernel
theorem dX4_pathFor_48 : decode cX4_pathFor 48 = .ok (.aload_n 2, 1) := by decide +kernel
theorem dX4_pathFor_49 : decode cX4_pathFor 49 = .ok (.getfield 133, 3) := by decide +kernel
theorem dX4_pathFor_52 : decode cX4_pathFor 52 = .ok (.ireturn, 1) := by decide +kernel
theorem dX4_pathFor_53 : decode cX4_pathFor 53 = .ok (.aload_n 0, 1) := by decide +kernel
theorem dX4_pathFor_54 : decode cX4_pathFor 54 = .ok (.getfield 46, 3) := by decide +kernel
theorem dX4_pathFor_57 : decode cX4_pathFor 57 = .ok (.iconst 1, 1) := by decide +kernel
theorem dX4_pathFor_58 : decode cX4_pathFor 58 = .ok (.if_icmp .ne 14, 3) := by decide +kernel
theorem dX4_pathFor_61 : decode cX4_pathFor 61 = .ok (.aload_n 0, 1) := by decide +kernel
theorem dX4_pathFor_62 : decode cX4_pathFor 62 = .ok (.aload_n 2, 1) := by decide +kernel
theorem dX4_pathFor_63 : decode cX4_pathFor 63 = .ok (.getfield 133, 3) := by decide +kernel
theorem dX4_pathFor_66 : decode cX4_pathFor 66 = .ok (.invokevirtual 136, 3) := by decide +kernel
theorem dX4_pathFor_69 : decode cX4_pathFor 69 = .ok (.goto 7, 3) := by decide +kernel
theorem dX4_pathFor_72 : decode cX4_pathFor 72 = .ok (.aload_n 0, 1) := by decide +kernel
theorem dX4_pathFor_73 : decode cX4_pathFor 73 = .ok (.invokevirtual 139, 3) := by decide +kernel
theorem dX4_pathFor_76 : decode cX4_pathFor 76 = .ok (.ireturn, 1) := by decide +kernel
theorem dX4_leastCongestedPath_0 : decode cX4_leastCongestedPath 0 = .ok (.iconst 0, 1) := by decide +kernel
theorem dX4_leastCongestedPath_1 : decode cX4_leastCongestedPath 1 = .ok (.istore_n 2, 1) := by decide +kernel
theorem dX4_leastCongestedPath_2 : decode cX4_leastCongestedPath 2 = .ok (.iconst 1, 1) := by decide +kernel
theorem dX4_leastCongestedPath_3 : decode cX4_leastCongestedPath 3 = .ok (.istore_n 3, 1) := by decide +kernel
theorem dX4_leastCongestedPath_4 : decode cX4_leastCongestedPath 4 = .ok (.iload_n 3, 1) := by decide +kernel
theorem dX4_leastCongestedPath_5 : decode cX4_leastCongestedPath 5 = .ok (.aload_n 0, 1) := by decide +kernel
theorem dX4_leastCongestedPath_6 : decode cX4_leastCongestedPath 6 = .ok (.getfield 36, 3) := by decide +kernel
theorem dX4_leastCongestedPath_9 : decode cX4_leastCongestedPath 9 = .ok (.if_icmp .ge 32, 3) := by decide +kernel
theorem dX4_leastCongestedPath_12 : decode cX4_leastCongestedPath 12 = .ok (.aload_n 0, 1) := by decide +kernel
theorem dX4_leastCongestedPath_13 : decode cX4_leastCongestedPath 13 = .ok (.getfield 11, 3) := by decide +kernel
theorem dX4_leastCongestedPath_16 : decode cX4_leastCongestedPath 16 = .ok (.iload_n 3, 1) := by decide +kernel
theorem dX4_leastCongestedPath_17 : decode cX4_leastCongestedPath 17 = .ok (.aaload, 1) := by decide +kernel
theorem dX4_leastCongestedPath_18 : decode cX4_leastCongestedPath 18 = .ok (.invokevirtual 143, 3) := by decide +kernel
theorem dX4_leastCongestedPath_21 : decode cX4_leastCongestedPath 21 = .ok (.aload_n 0, 1) := by decide +kernel
theorem dX4_leastCongestedPath_22 : decode cX4_leastCongestedPath 22 = .ok (.getfield 11, 3) := by decide +kernel
theorem dX4_leastCongestedPath_25 : decode cX4_leastCongestedPath 25 = .ok (.iload_n 2, 1) := by decide +kernel
theorem dX4_leastCongestedPath_26 : decode cX4_leastCongestedPath 26 = .ok (.aaload, 1) := by decide +kernel
theorem dX4_leastCongestedPath_27 : decode cX4_leastCongestedPath 27 = .ok (.invokevirtual 143, 3) := by decide +kernel
theorem dX4_leastCongestedPath_30 : decode cX4_leastCongestedPath 30 = .ok (.if_icmp .ge 5, 3) := by decide +kernel
theorem dX4_leastCongestedPath_33 : decode cX4_leastCongestedPath 33 = .ok (.iload_n 3, 1) := by decide +kernel
theorem dX4_leastCongestedPath_34 : decode cX4_leastCongestedPath 34 = .ok (.istore_n 2, 1) := by decide +kernel
theorem dX4_leastCongestedPath_35 : decode cX4_leastCongestedPath 35 = .ok (.iinc 3 1, 3) := by decide +kernel
theorem dX4_leastCongestedPath_38 : decode cX4_leastCongestedPath 38 = .ok (.goto (-34), 3) := by decide +kernel
theorem dX4_leastCongestedPath_41 : decode cX4_leastCongestedPath 41 = .ok (.aload_n 0, 1) := by decide +kernel
theorem dX4_leastCongestedPath_42 : decode cX4_leastCongestedPath 42 = .ok (.iload_n 1, 1) := by decide +kernel
theorem dX4_leastCongestedPath_43 : decode cX4_leastCongestedPath 43 = .ok (.invokevirtual 82, 3) := by decide +kernel
theorem dX4_leastCongestedPath_46 : decode cX4_leastCongestedPath 46 = .ok (.ifCond .eq 28, 3) := by decide +kernel
theorem dX4_leastCongestedPath_49 : decode cX4_leastCongestedPath 49 = .ok (.aload_n 0, 1) := by decide +kernel
theorem dX4_leastCongestedPath_50 : decode cX4_leastCongestedPath 50 = .ok (.getfield 11, 3) := by decide +kernel
theorem dX4_leastCongestedPath_53 : decode cX4_leastCongestedPath 53 = .ok (.iload_n 1, 1) := by decide +kernel
theorem dX4_leastCongestedPath_54 : decode cX4_leastCongestedPath 54 = .ok (.aaload, 1) := by decide +kernel
theorem dX4_leastCongestedPath_55 : decode cX4_leastCongestedPath 55 = .ok (.invokevirtual 143, 3) := by decide +kernel
theorem dX4_leastCongestedPath_58 : decode cX4_leastCongestedPath 58 = .ok (.aload_n 0, 1) := by decide +kernel
theorem dX4_leastCongestedPath_59 : decode cX4_leastCongestedPath 59 = .ok (.getfield 11, 3) := by decide +kernel
theorem dX4_leastCongestedPath_62 : decode cX4_leastCongestedPath 62 = .ok (.iload_n 2, 1) := by decide +kernel
theorem dX4_leastCongestedPath_63 : decode cX4_leastCongestedPath 63 = .ok (.aaload, 1) := by decide +kernel
theorem dX4_leastCongestedPath_64 : decode cX4_leastCongestedPath 64 = .ok (.invokevirtual 143, 3) := by decide +kernel
theorem dX4_leastCongestedPath_67 : decode cX4_leastCongestedPath 67 = .ok (.if_icmp .ne 7, 3) := by decide +kernel
theorem dX4_leastCongestedPath_70 : decode cX4_leastCongestedPath 70 = .ok (.iconst 1, 1) := by decide +kernel
theorem dX4_leastCongestedPath_71 : decode cX4_leastCongestedPath 71 = .ok (.goto 4, 3) := by decide +kernel
theorem dX4_leastCongestedPath_74 : decode cX4_leastCongestedPath 74 = .ok (.iconst 0, 1) := by decide +kernel
theorem dX4_leastCongestedPath_75 : decode cX4_leastCongestedPath 75 = .ok (.istore_n 3, 1) := by decide +kernel
theorem dX4_leastCongestedPath_76 : decode cX4_leastCongestedPath 76 = .ok (.iload_n 3, 1) := by decide +kernel
theorem dX4_leastCongestedPath_77 : decode cX4_leastCongestedPath 77 = .ok (.ifCond .eq 7, 3) := by decide +kernel
theorem dX4_leastCongestedPath_80 : decode cX4_leastCongestedPath 80 = .ok (.iload_n 1, 1) := by decide +kernel
theorem dX4_leastCongestedPath_81 : decode cX4_leastCongestedPath 81 = .ok (.goto 4, 3) := by decide +kernel
theorem dX4_leastCongestedPath_84 : decode cX4_leastCongestedPath 84 = .ok (.iload_n 2, 1) := by decide +kernel
theorem dX4_leastCongestedPath_85 : decode cX4_leastCongestedPath 85 = .ok (.ireturn, 1) := by decide +kernel
theorem dX4_randomPath_0 : decode cX4_randomPath 0 = .ok (.aload_n 0, 1) := by decide +kernel
theorem dX4_randomPath_1 : decode cX4_randomPath 1 = .ok (.invokevirtual 146, 3) := by decide +kernel
theorem dX4_randomPath_4 : decode cX4_randomPath 4 = .ok (.ldc 149, 2) := by decide +kernel
theorem dX4_randomPath_6 : decode cX4_randomPath 6 = .ok (.idiv, 1) := by decide +kernel
theorem dX4_randomPath_7 : decode cX4_randomPath 7 = .ok (.aload_n 0, 1) := by decide +kernel
theorem dX4_randomPath_8 : decode cX4_randomPath 8 = .ok (.getfield 36, 3) := by decide +kernel
theorem dX4_randomPath_11 : decode cX4_randomPath 11 = .ok (.invokestatic 87, 3) := by decide +kernel
theorem dX4_randomPath_14 : decode cX4_randomPath 14 = .ok (.ireturn, 1) := by decide +kernel
theorem dX4_nextGenerator_0 : decode cX4_nextGenerator 0 = .ok (.ldc 150, 2) := by decide +kernel
theorem dX4_nextGenerator_2 : decode cX4_nextGenerator 2 = .ok (.aload_n 0, 1) := by decide +kernel
theorem dX4_nextGenerator_3 : decode cX4_nextGenerator 3 = .ok (.getfield 58, 3) := by decide +kernel
theorem dX4_nextGenerator_6 : decode cX4_nextGenerator 6 = .ok (.imul, 1) := by decide +kernel
theorem dX4_nextGenerator_7 : decode cX4_nextGenerator 7 = .ok (.sipush 12345, 3) := by decide +kernel
theorem dX4_nextGenerator_10 : decode cX4_nextGenerator 10 = .ok (.iadd, 1) := by decide +kernel
theorem dX4_nextGenerator_11 : decode cX4_nextGenerator 11 = .ok (.ldc 151, 2) := by decide +kernel
theorem dX4_nextGenerator_13 : decode cX4_nextGenerator 13 = .ok (.iand, 1) := by decide +kernel
theorem dX4_nextGenerator_14 : decode cX4_nextGenerator 14 = .ok (.ireturn, 1) := by decide +kernel
theorem dX4_sendPacket_0 : decode cX4_sendPacket 0 = .ok (.aload_n 0, 1) := by decide +kernel
theorem dX4_sendPacket_1 : decode cX4_sendPacket 1 = .ok (.iload_n 1, 1) := by decide +kernel
theorem dX4_sendPacket_2 : decode cX4_sendPacket 2 = .ok (.invokevirtual 152, 3) := by decide +kernel
theorem dX4_sendPacket_5 : decode cX4_sendPacket 5 = .ok (.istore_n 3, 1) := by decide +kernel
theorem dX4_sendPacket_6 : decode cX4_sendPacket 6 = .ok (.aload_n 0, 1) := by decide +kernel
theorem dX4_sendPacket_7 : decode cX4_sendPacket 7 = .ok (.iload_n 1, 1) := by decide +kernel
theorem dX4_sendPacket_8 : decode cX4_sendPacket 8 = .ok (.iload_n 3, 1) := by decide +kernel
theorem dX4_sendPacket_9 : decode cX4_sendPacket 9 = .ok (.invokevirtual 155, 3) := by decide +kernel
theorem dX4_sendPacket_12 : decode cX4_sendPacket 12 = .ok (.aload_n 0, 1) := by decide +kernel
theorem dX4_sendPacket_13 : decode cX4_sendPacket 13 = .ok (.iload_n 3, 1) := by decide +kernel
theorem dX4_sendPacket_14 : decode cX4_sendPacket 14 = .ok (.invokevirtual 158, 3) := by decide +kernel
theorem dX4_sendPacket_17 : decode cX4_sendPacket 17 = .ok (.astore 4, 2) := by decide +kernel
theorem dX4_sendPacket_19 : decode cX4_sendPacket 19 = .ok (.aload 4, 2) := by decide +kernel
theorem dX4_sendPacket_21 : decode cX4_sendPacket 21 = .ok (.aload_n 0, 1) := by decide +kernel
theorem dX4_sendPacket_22 : decode cX4_sendPacket 22 = .ok (.getfield 43, 3) := by decide +kernel
theorem dX4_sendPacket_25 : decode cX4_sendPacket 25 = .ok (.invokevirtual 162, 3) := by decide +kernel
theorem dX4_sendPacket_28 : decode cX4_sendPacket 28 = .ok (.ifCond .eq 19, 3) := by decide +kernel
theorem dX4_sendPacket_31 : decode cX4_sendPacket 31 = .ok (.aload 4, 2) := by decide +kernel
theorem dX4_sendPacket_33 : decode cX4_sendPacket 33 = .ok (.dup, 1) := by decide +kernel
theorem dX4_sendPacket_34 : decode cX4_sendPacket 34 = .ok (.getfield 165, 3) := by decide +kernel
theorem dX4_sendPacket_37 : decode cX4_sendPacket 37 = .ok (.iconst 1, 1) := by decide +kernel
theorem dX4_sendPacket_38 : decode cX4_sendPacket 38 = .ok (.iadd, 1) := by decide +kernel
theorem dX4_sendPacket_39 : decode cX4_sendPacket 39 = .ok (.putfield 165, 3) := by decide +kernel
theorem dX4_sendPacket_42 : decode cX4_sendPacket 42 = .ok (.bipush 10, 2) := by decide +kernel
theorem dX4_sendPacket_44 : decode cX4_sendPacket 44 = .ok (.iload_n 3, 1) := by decide +kernel
theorem dX4_sendPacket_45 : decode cX4_sendPacket 45 = .ok (.iadd, 1) := by decide +kernel
theorem dX4_sendPacket_46 : decode cX4_sendPacket 46 = .ok (.ireturn, 1) := by decide +kernel
theorem dX4_sendPacket_47 : decode cX4_sendPacket 47 = .ok (.aload_n 0, 1) := by decide +kernel
theorem dX4_sendPacket_48 : decode cX4_sendPacket 48 = .ok (.getfield 25, 3) := by decide +kernel
theorem dX4_sendPacket_51 : decode cX4_sendPacket 51 = .ok (.iload_n 1, 1) := by decide +kernel
theorem dX4_sendPacket_52 : decode cX4_sendPacket 52 = .ok (.aaload, 1) := by decide +kernel
theorem dX4_sendPacket_53 : decode cX4_sendPacket 53 = .ok (.iload_n 3, 1) := by decide +kernel
theorem dX4_sendPacket_54 : decode cX4_sendPacket 54 = .ok (.aload_n 0, 1) := by decide +kernel
theorem dX4_sendPacket_55 : decode cX4_sendPacket 55 = .ok (.getfield 43, 3) := by decide +kernel
theorem dX4_sendPacket_58 : decode cX4_sendPacket 58 = .ok (.aload 4, 2) := by decide +kernel
theorem dX4_sendPacket_60 : decode cX4_sendPacket 60 = .ok (.aload_n 0, 1) := by decide +kernel
theorem dX4_sendPacket_61 : decode cX4_sendPacket 61 = .ok (.getfield 43, 3) := by decide +kernel
theorem dX4_sendPacket_64 : decode cX4_sendPacket 64 = .ok (.iload_n 2, 1) := by decide +kernel
theorem dX4_sendPacket_65 : decode cX4_sendPacket 65 = .ok (.invokevirtual 106, 3) := by decide +kernel
theorem dX4_sendPacket_68 : decode cX4_sendPacket 68 = .ok (.iadd, 1) := by decide +kernel
theorem dX4_sendPacket_69 : decode cX4_sendPacket 69 = .ok (.invokevirtual 168, 3) := by decide +kernel
theorem dX4_sendPacket_72 : decode cX4_sendPacket 72 = .ok (.aload 4, 2) := by decide +kernel
theorem dX4_sendPacket_74 : decode cX4_sendPacket 74 = .ok (.aload_n 0, 1) := by decide +kernel
theorem dX4_sendPacket_75 : decode cX4_sendPacket 75 = .ok (.getfield 43, 3) := by decide +kernel
theorem dX4_sendPacket_78 : decode cX4_sendPacket 78 = .ok (.iload_n 2, 1) := by decide +kernel
theorem dX4_sendPacket_79 : decode cX4_sendPacket 79 = .ok (.invokevirtual 171, 3) := by decide +kernel
theorem dX4_sendPacket_82 : decode cX4_sendPacket 82 = .ok (.iload_n 3, 1) := by decide +kernel
theorem dX4_sendPacket_83 : decode cX4_sendPacket 83 = .ok (.ireturn, 1) := by decide +kernel

theorem dX0_init_0 : decode cX0_init 0 = .ok (.aload_n 0, 1) := by decide +kernel
theorem dX0_init_1 : decode cX0_init 1 = .ok (.invokespecial 3, 3) := by decide +kernel
theorem dX0_init_4 : decode cX0_init 4 = .ok (.aload_n 0, 1) := by decide +kernel
theorem dX0_init_5 : decode cX0_init 5 = .ok (.iconst 0, 1) := by decide +kernel
theorem dX0_init_6 : decode cX0_init 6 = .ok (.putfield 9, 3) := by decide +kernel
theorem dX0_init_9 : decode cX0_init 9 = .ok (.aload_n 0, 1) := by decide +kernel
theorem dX0_init_10 : decode cX0_init 10 = .ok (.iconst 0, 1) := by decide +kernel
theorem dX0_init_11 : decode cX0_init 11 = .ok (.putfield 15, 3) := by decide +kernel
theorem dX0_init_14 : decode cX0_init 14 = .ok (.aload_n 0, 1) := by decide +kernel
theorem dX0_init_15 : decode cX0_init 15 = .ok (.iconst 0, 1) := by decide +kernel
theorem dX0_init_16 : decode cX0_init 16 = .ok (.putfield 18, 3) := by decide +kernel
theorem dX0_init_19 : decode cX0_init 19 = .ok (.aload_n 0, 1) := by decide +kernel
theorem dX0_init_20 : decode cX0_init 20 = .ok (.iconst 0, 1) := by decide +kernel
theorem dX0_init_21 : decode cX0_init 21 = .ok (.putfield 21, 3) := by decide +kernel
theorem dX0_init_24 : decode cX0_init 24 = .ok (.aload_n 0, 1) := by decide +kernel
theorem dX0_init_25 : decode cX0_init 25 = .ok (.iconst (-1), 1) := by decide +kernel
theorem dX0_init_26 : decode cX0_init 26 = .ok (.putfield 24, 3) := by decide +kernel
theorem dX0_init_29 : decode cX0_init 29 = .ok (.aload_n 0, 1) := by decide +kernel
theorem dX0_init_30 : decode cX0_init 30 = .ok (.iconst (-1), 1) := by decide +kernel
theorem dX0_init_31 : decode cX0_init 31 = .ok (.putfield 27, 3) := by decide +kernel
theorem dX0_init_34 : decode cX0_init 34 = .ok (.aload_n 0, 1) := by decide +kernel
theorem dX0_init_35 : decode cX0_init 35 = .ok (.iconst 0, 1) := by decide +kernel
theorem dX0_init_36 : decode cX0_init 36 = .ok (.putfield 30, 3) := by decide +kernel
theorem dX0_init_39 : decode cX0_init 39 = .ok (.aload_n 0, 1) := by decide +kernel
theorem dX0_init_40 : decode cX0_init 40 = .ok (.iconst 0, 1) := by decide +kernel
theorem dX0_init_41 : decode cX0_init 41 = .ok (.putfield 33, 3) := by decide +kernel
theorem dX0_init_44 : decode cX0_init 44 = .ok (.aload_n 0, 1) := by decide +kernel
theorem dX0_init_45 : decode cX0_init 45 = .ok (.iconst 0, 1) := by decide +kernel
theorem dX0_init_46 : decode cX0_init 46 = .ok (.putfield 36, 3) := by decide +kernel
theorem dX0_init_49 : decode cX0_init 49 = .ok (.return_, 1) := by decide +kernel
theorem dX0_isFixed_0 : decode cX0_isFixed 0 = .ok (.aload_n 0, 1) := by decide +kernel
theorem dX0_isFixed_1 : decode cX0_isFixed 1 = .ok (.getfield 24, 3) := by decide +kernel
theorem dX0_isFixed_4 : decode cX0_isFixed 4 = .ok (.ifCond .lt 14, 3) := by decide +kernel
theorem dX0_isFixed_7 : decode cX0_isFixed 7 = .ok (.aload_n 0, 1) := by decide +kernel
theorem dX0_isFixed_8 : decode cX0_isFixed 8 = .ok (.getfield 27, 3) := by decide +kernel
theorem dX0_isFixed_11 : decode cX0_isFixed 11 = .ok (.ifCond .lt 7, 3) := by decide +kernel
theorem dX0_isFixed_14 : decode cX0_isFixed 14 = .ok (.iconst 1, 1) := by decide +kernel
theorem dX0_isFixed_15 : decode cX0_isFixed 15 = .ok (.goto 4, 3) := by decide +kernel
theorem dX0_isFixed_18 : decode cX0_isFixed 18 = .ok (.iconst 0, 1) := by decide +kernel
theorem dX0_isFixed_19 : decode cX0_isFixed 19 = .ok (.ireturn, 1) := by decide +kernel
theorem dX0_loadAt_0 : decode cX0_loadAt 0 = .ok (.iload_n 1, 1) := by decide +kernel
theorem dX0_loadAt_1 : decode cX0_loadAt 1 = .ok (.aload_n 0, 1) := by decide +kernel
theorem dX0_loadAt_2 : decode cX0_loadAt 2 = .ok (.getfield 24, 3) := by decide +kernel
theorem dX0_loadAt_5 : decode cX0_loadAt 5 = .ok (.if_icmp .ne 8, 3) := by decide +kernel
theorem dX0_loadAt_8 : decode cX0_loadAt 8 = .ok (.aload_n 0, 1) := by decide +kernel
theorem dX0_loadAt_9 : decode cX0_loadAt 9 = .ok (.getfield 30, 3) := by decide +kernel
theorem dX0_loadAt_12 : decode cX0_loadAt 12 = .ok (.ireturn, 1) := by decide +kernel
theorem dX0_loadAt_13 : decode cX0_loadAt 13 = .ok (.iload_n 1, 1) := by decide +kernel
theorem dX0_loadAt_14 : decode cX0_loadAt 14 = .ok (.aload_n 0, 1) := by decide +kernel
theorem dX0_loadAt_15 : decode cX0_loadAt 15 = .ok (.getfield 27, 3) := by decide +kernel
theorem dX0_loadAt_18 : decode cX0_loadAt 18 = .ok (.if_icmp .ne 10, 3) := by decide +kernel
theorem dX0_loadAt_21 : decode cX0_loadAt 21 = .ok (.aload_n 0, 1) := by decide +kernel
theorem dX0_loadAt_22 : decode cX0_loadAt 22 = .ok (.getfield 33, 3) := by decide +kernel
theorem dX0_loadAt_25 : decode cX0_loadAt 25 = .ok (.goto 4, 3) := by decide +kernel
theorem dX0_loadAt_28 : decode cX0_loadAt 28 = .ok (.iconst 0, 1) := by decide +kernel
theorem dX0_loadAt_29 : decode cX0_loadAt 29 = .ok (.ireturn, 1) := by decide +kernel
theorem dX1_init_0 : decode cX1_init 0 = .ok (.aload_n 0, 1) := by decide +kernel
theorem dX1_init_1 : decode cX1_init 1 = .ok (.invokespecial 1, 3) := by decide +kernel
theorem dX1_init_4 : decode cX1_init 4 = .ok (.aload_n 0, 1) := by decide +kernel
theorem dX1_init_5 : decode cX1_init 5 = .ok (.iconst 0, 1) := by decide +kernel
theorem dX1_init_6 : decode cX1_init 6 = .ok (.putfield 7, 3) := by decide +kernel
theorem dX1_init_9 : decode cX1_init 9 = .ok (.aload_n 0, 1) := by decide +kernel
theorem dX1_init_10 : decode cX1_init 10 = .ok (.iconst 0, 1) := by decide +kernel
theorem dX1_init_11 : decode cX1_init 11 = .ok (.putfield 13, 3) := by decide +kernel
theorem dX1_init_14 : decode cX1_init 14 = .ok (.return_, 1) := by decide +kernel
theorem dX2_init_0 : decode cX2_init 0 = .ok (.aload_n 0, 1) := by decide +kernel
theorem dX2_init_1 : decode cX2_init 1 = .ok (.invokespecial 3, 3) := by decide +kernel
theorem dX2_init_4 : decode cX2_init 4 = .ok (.aload_n 0, 1) := by decide +kernel
theorem dX2_init_5 : decode cX2_init 5 = .ok (.bipush 6, 2) := by decide +kernel
theorem dX2_init_7 : decode cX2_init 7 = .ok (.newarray .int, 2) := by decide +kernel
theorem dX2_init_9 : decode cX2_init 9 = .ok (.putfield 9, 3) := by decide +kernel
theorem dX2_init_12 : decode cX2_init 12 = .ok (.aload_n 0, 1) := by decide +kernel
theorem dX2_init_13 : decode cX2_init 13 = .ok (.bipush 6, 2) := by decide +kernel
theorem dX2_init_15 : decode cX2_init 15 = .ok (.newarray .int, 2) := by decide +kernel
theorem dX2_init_17 : decode cX2_init 17 = .ok (.putfield 15, 3) := by decide +kernel
theorem dX2_init_20 : decode cX2_init 20 = .ok (.aload_n 0, 1) := by decide +kernel
theorem dX2_init_21 : decode cX2_init 21 = .ok (.bipush 6, 2) := by decide +kernel
theorem dX2_init_23 : decode cX2_init 23 = .ok (.newarray .int, 2) := by decide +kernel
theorem dX2_init_25 : decode cX2_init 25 = .ok (.putfield 18, 3) := by decide +kernel
theorem dX2_init_28 : decode cX2_init 28 = .ok (.aload_n 0, 1) := by decide +kernel
theorem dX2_init_29 : decode cX2_init 29 = .ok (.bipush 6, 2) := by decide +kernel
theorem dX2_init_31 : decode cX2_init 31 = .ok (.newarray .int, 2) := by decide +kernel
theorem dX2_init_33 : decode cX2_init 33 = .ok (.putfield 21, 3) := by decide +kernel
theorem dX2_init_36 : decode cX2_init 36 = .ok (.aload_n 0, 1) := by decide +kernel
theorem dX2_init_37 : decode cX2_init 37 = .ok (.bipush 8, 2) := by decide +kernel
theorem dX2_init_39 : decode cX2_init 39 = .ok (.newarray .int, 2) := by decide +kernel
theorem dX2_init_41 : decode cX2_init 41 = .ok (.putfield 24, 3) := by decide +kernel
theorem dX2_init_44 : decode cX2_init 44 = .ok (.aload_n 0, 1) := by decide +kernel
theorem dX2_init_45 : decode cX2_init 45 = .ok (.iconst 0, 1) := by decide +kernel
theorem dX2_init_46 : decode cX2_init 46 = .ok (.putfield 27, 3) := by decide +kernel
theorem dX2_init_49 : decode cX2_init 49 = .ok (.aload_n 0, 1) := by decide +kernel
theorem dX2_init_50 : decode cX2_init 50 = .ok (.iconst 0, 1) := by decide +kernel
theorem dX2_init_51 : decode cX2_init 51 = .ok (.putfield 31, 3) := by decide +kernel
theorem dX2_init_54 : decode cX2_init 54 = .ok (.aload_n 0, 1) := by decide +kernel
theorem dX2_init_55 : decode cX2_init 55 = .ok (.iconst 0, 1) := by decide +kernel
theorem dX2_init_56 : decode cX2_init 56 = .ok (.putfield 34, 3) := by decide +kernel
theorem dX2_init_59 : decode cX2_init 59 = .ok (.return_, 1) := by decide +kernel
theorem dX2_lastMinute_0 : decode cX2_lastMinute 0 = .ok (.aload_n 0, 1) := by decide +kernel
theorem dX2_lastMinute_1 : decode cX2_lastMinute 1 = .ok (.getfield 27, 3) := by decide +kernel
theorem dX2_lastMinute_4 : decode cX2_lastMinute 4 = .ok (.ifCond .le 17, 3) := by decide +kernel
theorem dX2_lastMinute_7 : decode cX2_lastMinute 7 = .ok (.aload_n 0, 1) := by decide +kernel
theorem dX2_lastMinute_8 : decode cX2_lastMinute 8 = .ok (.getfield 18, 3) := by decide +kernel
theorem dX2_lastMinute_11 : decode cX2_lastMinute 11 = .ok (.aload_n 0, 1) := by decide +kernel
theorem dX2_lastMinute_12 : decode cX2_lastMinute 12 = .ok (.getfield 27, 3) := by decide +kernel
theorem dX2_lastMinute_15 : decode cX2_lastMinute 15 = .ok (.iconst 1, 1) := by decide +kernel
theorem dX2_lastMinute_16 : decode cX2_lastMinute 16 = .ok (.isub, 1) := by decide +kernel
theorem dX2_lastMinute_17 : decode cX2_lastMinute 17 = .ok (.iaload, 1) := by decide +kernel
theorem dX2_lastMinute_18 : decode cX2_lastMinute 18 = .ok (.goto 4, 3) := by decide +kernel
theorem dX2_lastMinute_21 : decode cX2_lastMinute 21 = .ok (.iconst 0, 1) := by decide +kernel
theorem dX2_lastMinute_22 : decode cX2_lastMinute 22 = .ok (.ireturn, 1) := by decide +kernel
theorem dX2_workAtEnd_0 : decode cX2_workAtEnd 0 = .ok (.aload_n 0, 1) := by decide +kernel
theorem dX2_workAtEnd_1 : decode cX2_workAtEnd 1 = .ok (.getfield 27, 3) := by decide +kernel
theorem dX2_workAtEnd_4 : decode cX2_workAtEnd 4 = .ok (.ifCond .le 17, 3) := by decide +kernel
theorem dX2_workAtEnd_7 : decode cX2_workAtEnd 7 = .ok (.aload_n 0, 1) := by decide +kernel
theorem dX2_workAtEnd_8 : decode cX2_workAtEnd 8 = .ok (.getfield 21, 3) := by decide +kernel
theorem dX2_workAtEnd_11 : decode cX2_workAtEnd 11 = .ok (.aload_n 0, 1) := by decide +kernel
theorem dX2_workAtEnd_12 : decode cX2_workAtEnd 12 = .ok (.getfield 27, 3) := by decide +kernel
theorem dX2_workAtEnd_15 : decode cX2_workAtEnd 15 = .ok (.iconst 1, 1) := by decide +kernel
theorem dX2_workAtEnd_16 : decode cX2_workAtEnd 16 = .ok (.isub, 1) := by decide +kernel
theorem dX2_workAtEnd_17 : decode cX2_workAtEnd 17 = .ok (.iaload, 1) := by decide +kernel
theorem dX2_workAtEnd_18 : decode cX2_workAtEnd 18 = .ok (.goto 4, 3) := by decide +kernel
theorem dX2_workAtEnd_21 : decode cX2_workAtEnd 21 = .ok (.iconst 0, 1) := by decide +kernel
theorem dX2_workAtEnd_22 : decode cX2_workAtEnd 22 = .ok (.ireturn, 1) := by decide +kernel
theorem dX2_indexOf_0 : decode cX2_indexOf 0 = .ok (.iconst 0, 1) := by decide +kernel
theorem dX2_indexOf_1 : decode cX2_indexOf 1 = .ok (.istore_n 2, 1) := by decide +kernel
theorem dX2_indexOf_2 : decode cX2_indexOf 2 = .ok (.iload_n 2, 1) := by decide +kernel
theorem dX2_indexOf_3 : decode cX2_indexOf 3 = .ok (.aload_n 0, 1) := by decide +kernel
theorem dX2_indexOf_4 : decode cX2_indexOf 4 = .ok (.getfield 27, 3) := by decide +kernel
theorem dX2_indexOf_7 : decode cX2_indexOf 7 = .ok (.if_icmp .ge 21, 3) := by decide +kernel
theorem dX2_indexOf_10 : decode cX2_indexOf 10 = .ok (.aload_n 0, 1) := by decide +kernel
theorem dX2_indexOf_11 : decode cX2_indexOf 11 = .ok (.getfield 9, 3) := by decide +kernel
theorem dX2_indexOf_14 : decode cX2_indexOf 14 = .ok (.iload_n 2, 1) := by decide +kernel
theorem dX2_indexOf_15 : decode cX2_indexOf 15 = .ok (.iaload, 1) := by decide +kernel
theorem dX2_indexOf_16 : decode cX2_indexOf 16 = .ok (.iload_n 1, 1) := by decide +kernel
theorem dX2_indexOf_17 : decode cX2_indexOf 17 = .ok (.if_icmp .ne 5, 3) := by decide +kernel
theorem dX2_indexOf_20 : decode cX2_indexOf 20 = .ok (.iload_n 2, 1) := by decide +kernel
theorem dX2_indexOf_21 : decode cX2_indexOf 21 = .ok (.ireturn, 1) := by decide +kernel
theorem dX2_indexOf_22 : decode cX2_indexOf 22 = .ok (.iinc 2 1, 3) := by decide +kernel
theorem dX2_indexOf_25 : decode cX2_indexOf 25 = .ok (.goto (-23), 3) := by decide +kernel
theorem dX2_indexOf_28 : decode cX2_indexOf 28 = .ok (.iconst (-1), 1) := by decide +kernel
theorem dX2_indexOf_29 : decode cX2_indexOf 29 = .ok (.ireturn, 1) := by decide +kernel
theorem dX2_isWorkedOn_0 : decode cX2_isWorkedOn 0 = .ok (.iconst 0, 1) := by decide +kernel
theorem dX2_isWorkedOn_1 : decode cX2_isWorkedOn 1 = .ok (.istore_n 2, 1) := by decide +kernel
theorem dX2_isWorkedOn_2 : decode cX2_isWorkedOn 2 = .ok (.iload_n 2, 1) := by decide +kernel
theorem dX2_isWorkedOn_3 : decode cX2_isWorkedOn 3 = .ok (.aload_n 0, 1) := by decide +kernel
theorem dX2_isWorkedOn_4 : decode cX2_isWorkedOn 4 = .ok (.getfield 27, 3) := by decide +kernel
theorem dX2_isWorkedOn_7 : decode cX2_isWorkedOn 7 = .ok (.if_icmp .ge 31, 3) := by decide +kernel
theorem dX2_isWorkedOn_10 : decode cX2_isWorkedOn 10 = .ok (.iload_n 1, 1) := by decide +kernel
theorem dX2_isWorkedOn_11 : decode cX2_isWorkedOn 11 = .ok (.aload_n 0, 1) := by decide +kernel
theorem dX2_isWorkedOn_12 : decode cX2_isWorkedOn 12 = .ok (.getfield 15, 3) := by decide +kernel
theorem dX2_isWorkedOn_15 : decode cX2_isWorkedOn 15 = .ok (.iload_n 2, 1) := by decide +kernel
theorem dX2_isWorkedOn_16 : decode cX2_isWorkedOn 16 = .ok (.iaload, 1) := by decide +kernel
theorem dX2_isWorkedOn_17 : decode cX2_isWorkedOn 17 = .ok (.if_icmp .lt 15, 3) := by decide +kernel
theorem dX2_isWorkedOn_20 : decode cX2_isWorkedOn 20 = .ok (.iload_n 1, 1) := by decide +kernel
theorem dX2_isWorkedOn_21 : decode cX2_isWorkedOn 21 = .ok (.aload_n 0, 1) := by decide +kernel
theorem dX2_isWorkedOn_22 : decode cX2_isWorkedOn 22 = .ok (.getfield 18, 3) := by decide +kernel
theorem dX2_isWorkedOn_25 : decode cX2_isWorkedOn 25 = .ok (.iload_n 2, 1) := by decide +kernel
theorem dX2_isWorkedOn_26 : decode cX2_isWorkedOn 26 = .ok (.iaload, 1) := by decide +kernel
theorem dX2_isWorkedOn_27 : decode cX2_isWorkedOn 27 = .ok (.if_icmp .ge 5, 3) := by decide +kernel
theorem dX2_isWorkedOn_30 : decode cX2_isWorkedOn 30 = .ok (.iconst 1, 1) := by decide +kernel
theorem dX2_isWorkedOn_31 : decode cX2_isWorkedOn 31 = .ok (.ireturn, 1) := by decide +kernel
theorem dX2_isWorkedOn_32 : decode cX2_isWorkedOn 32 = .ok (.iinc 2 1, 3) := by decide +kernel
theorem dX2_isWorkedOn_35 : decode cX2_isWorkedOn 35 = .ok (.goto (-33), 3) := by decide +kernel
theorem dX2_isWorkedOn_38 : decode cX2_isWorkedOn 38 = .ok (.iconst 0, 1) := by decide +kernel
theorem dX2_isWorkedOn_39 : decode cX2_isWorkedOn 39 = .ok (.ireturn, 1) := by decide +kernel
theorem dX2_empty_0 : decode cX2_empty 0 = .ok (.aload_n 0, 1) := by decide +kernel
theorem dX2_empty_1 : decode cX2_empty 1 = .ok (.iconst 0, 1) := by decide +kernel
theorem dX2_empty_2 : decode cX2_empty 2 = .ok (.putfield 27, 3) := by decide +kernel
theorem dX2_empty_5 : decode cX2_empty 5 = .ok (.aload_n 0, 1) := by decide +kernel
theorem dX2_empty_6 : decode cX2_empty 6 = .ok (.iconst 0, 1) := by decide +kernel
theorem dX2_empty_7 : decode cX2_empty 7 = .ok (.putfield 31, 3) := by decide +kernel
theorem dX2_empty_10 : decode cX2_empty 10 = .ok (.aload_n 0, 1) := by decide +kernel
theorem dX2_empty_11 : decode cX2_empty 11 = .ok (.iconst 0, 1) := by decide +kernel
theorem dX2_empty_12 : decode cX2_empty 12 = .ok (.putfield 34, 3) := by decide +kernel
theorem dX2_empty_15 : decode cX2_empty 15 = .ok (.iconst 0, 1) := by decide +kernel
theorem dX2_empty_16 : decode cX2_empty 16 = .ok (.istore_n 1, 1) := by decide +kernel
theorem dX2_empty_17 : decode cX2_empty 17 = .ok (.iload_n 1, 1) := by decide +kernel
theorem dX2_empty_18 : decode cX2_empty 18 = .ok (.bipush 8, 2) := by decide +kernel
theorem dX2_empty_20 : decode cX2_empty 20 = .ok (.if_icmp .ge 16, 3) := by decide +kernel
theorem dX2_empty_23 : decode cX2_empty 23 = .ok (.aload_n 0, 1) := by decide +kernel
theorem dX2_empty_24 : decode cX2_empty 24 = .ok (.getfield 24, 3) := by decide +kernel
theorem dX2_empty_27 : decode cX2_empty 27 = .ok (.iload_n 1, 1) := by decide +kernel
theorem dX2_empty_28 : decode cX2_empty 28 = .ok (.iconst 0, 1) := by decide +kernel
theorem dX2_empty_29 : decode cX2_empty 29 = .ok (.iastore, 1) := by decide +kernel
theorem dX2_empty_30 : decode cX2_empty 30 = .ok (.iinc 1 1, 3) := by decide +kernel
theorem dX2_empty_33 : decode cX2_empty 33 = .ok (.goto (-16), 3) := by decide +kernel
theorem dX2_empty_36 : decode cX2_empty 36 = .ok (.return_, 1) := by decide +kernel
theorem dX2_copyFrom_0 : decode cX2_copyFrom 0 = .ok (.aload_n 0, 1) := by decide +kernel
theorem dX2_copyFrom_1 : decode cX2_copyFrom 1 = .ok (.aload_n 1, 1) := by decide +kernel
theorem dX2_copyFrom_2 : decode cX2_copyFrom 2 = .ok (.getfield 27, 3) := by decide +kernel
theorem dX2_copyFrom_5 : decode cX2_copyFrom 5 = .ok (.putfield 27, 3) := by decide +kernel
theorem dX2_copyFrom_8 : decode cX2_copyFrom 8 = .ok (.aload_n 0, 1) := by decide +kernel
theorem dX2_copyFrom_9 : decode cX2_copyFrom 9 = .ok (.aload_n 1, 1) := by decide +kernel
theorem dX2_copyFrom_10 : decode cX2_copyFrom 10 = .ok (.getfield 31, 3) := by decide +kernel
theorem dX2_copyFrom_13 : decode cX2_copyFrom 13 = .ok (.putfield 31, 3) := by decide +kernel
theorem dX2_copyFrom_16 : decode cX2_copyFrom 16 = .ok (.aload_n 0, 1) := by decide +kernel
theorem dX2_copyFrom_17 : decode cX2_copyFrom 17 = .ok (.aload_n 1, 1) := by decide +kernel
theorem dX2_copyFrom_18 : decode cX2_copyFrom 18 = .ok (.getfield 34, 3) := by decide +kernel
theorem dX2_copyFrom_21 : decode cX2_copyFrom 21 = .ok (.putfield 34, 3) := by decide +kernel
theorem dX2_copyFrom_24 : decode cX2_copyFrom 24 = .ok (.iconst 0, 1) := by decide +kernel
theorem dX2_copyFrom_25 : decode cX2_copyFrom 25 = .ok (.istore_n 2, 1) := by decide +kernel
theorem dX2_copyFrom_26 : decode cX2_copyFrom 26 = .ok (.iload_n 2, 1) := by decide +kernel
theorem dX2_copyFrom_27 : decode cX2_copyFrom 27 = .ok (.bipush 6, 2) := by decide +kernel
theorem dX2_copyFrom_29 : decode cX2_copyFrom 29 = .ok (.if_icmp .ge 57, 3) := by decide +kernel
theorem dX2_copyFrom_32 : decode cX2_copyFrom 32 = .ok (.aload_n 0, 1) := by decide +kernel
theorem dX2_copyFrom_33 : decode cX2_copyFrom 33 = .ok (.getfield 9, 3) := by decide +kernel
theorem dX2_copyFrom_36 : decode cX2_copyFrom 36 = .ok (.iload_n 2, 1) := by decide +kernel
theorem dX2_copyFrom_37 : decode cX2_copyFrom 37 = .ok (.aload_n 1, 1) := by decide +kernel
theorem dX2_copyFrom_38 : decode cX2_copyFrom 38 = .ok (.getfield 9, 3) := by decide +kernel
theorem dX2_copyFrom_41 : decode cX2_copyFrom 41 = .ok (.iload_n 2, 1) := by decide +kernel
theorem dX2_copyFrom_42 : decode cX2_copyFrom 42 = .ok (.iaload, 1) := by decide +kernel
theorem dX2_copyFrom_43 : decode cX2_copyFrom 43 = .ok (.iastore, 1) := by decide +kernel
theorem dX2_copyFrom_44 : decode cX2_copyFrom 44 = .ok (.aload_n 0, 1) := by decide +kernel
theorem dX2_copyFrom_45 : decode cX2_copyFrom 45 = .ok (.getfield 15, 3) := by decide +kernel
theorem dX2_copyFrom_48 : decode cX2_copyFrom 48 = .ok (.iload_n 2, 1) := by decide +kernel
theorem dX2_copyFrom_49 : decode cX2_copyFrom 49 = .ok (.aload_n 1, 1) := by decide +kernel
theorem dX2_copyFrom_50 : decode cX2_copyFrom 50 = .ok (.getfield 15, 3) := by decide +kernel
theorem dX2_copyFrom_53 : decode cX2_copyFrom 53 = .ok (.iload_n 2, 1) := by decide +kernel
theorem dX2_copyFrom_54 : decode cX2_copyFrom 54 = .ok (.iaload, 1) := by decide +kernel
theorem dX2_copyFrom_55 : decode cX2_copyFrom 55 = .ok (.iastore, 1) := by decide +kernel
theorem dX2_copyFrom_56 : decode cX2_copyFrom 56 = .ok (.aload_n 0, 1) := by decide +kernel
theorem dX2_copyFrom_57 : decode cX2_copyFrom 57 = .ok (.getfield 18, 3) := by decide +kernel
theorem dX2_copyFrom_60 : decode cX2_copyFrom 60 = .ok (.iload_n 2, 1) := by decide +kernel
theorem dX2_copyFrom_61 : decode cX2_copyFrom 61 = .ok (.aload_n 1, 1) := by decide +kernel
theorem dX2_copyFrom_62 : decode cX2_copyFrom 62 = .ok (.getfield 18, 3) := by decide +kernel
theorem dX2_copyFrom_65 : decode cX2_copyFrom 65 = .ok (.iload_n 2, 1) := by decide +kernel
theorem dX2_copyFrom_66 : decode cX2_copyFrom 66 = .ok (.iaload, 1) := by decide +kernel
theorem dX2_copyFrom_67 : decode cX2_copyFrom 67 = .ok (.iastore, 1) := by decide +kernel
theorem dX2_copyFrom_68 : decode cX2_copyFrom 68 = .ok (.aload_n 0, 1) := by decide +kernel
theorem dX2_copyFrom_69 : decode cX2_copyFrom 69 = .ok (.getfield 21, 3) := by decide +kernel
theorem dX2_copyFrom_72 : decode cX2_copyFrom 72 = .ok (.iload_n 2, 1) := by decide +kernel
theorem dX2_copyFrom_73 : decode cX2_copyFrom 73 = .ok (.aload_n 1, 1) := by decide +kernel
theorem dX2_copyFrom_74 : decode cX2_copyFrom 74 = .ok (.getfield 21, 3) := by decide +kernel
theorem dX2_copyFrom_77 : decode cX2_copyFrom 77 = .ok (.iload_n 2, 1) := by decide +kernel
theorem dX2_copyFrom_78 : decode cX2_copyFrom 78 = .ok (.iaload, 1) := by decide +kernel
theorem dX2_copyFrom_79 : decode cX2_copyFrom 79 = .ok (.iastore, 1) := by decide +kernel
theorem dX2_copyFrom_80 : decode cX2_copyFrom 80 = .ok (.iinc 2 1, 3) := by decide +kernel
theorem dX2_copyFrom_83 : decode cX2_copyFrom 83 = .ok (.goto (-57), 3) := by decide +kernel
theorem dX2_copyFrom_86 : decode cX2_copyFrom 86 = .ok (.iconst 0, 1) := by decide +kernel
theorem dX2_copyFrom_87 : decode cX2_copyFrom 87 = .ok (.istore_n 2, 1) := by decide +kernel
theorem dX2_copyFrom_88 : decode cX2_copyFrom 88 = .ok (.iload_n 2, 1) := by decide +kernel
theorem dX2_copyFrom_89 : decode cX2_copyFrom 89 = .ok (.bipush 8, 2) := by decide +kernel
theorem dX2_copyFrom_91 : decode cX2_copyFrom 91 = .ok (.if_icmp .ge 21, 3) := by decide +kernel
theorem dX2_copyFrom_94 : decode cX2_copyFrom 94 = .ok (.aload_n 0, 1) := by decide +kernel
theorem dX2_copyFrom_95 : decode cX2_copyFrom 95 = .ok (.getfield 24, 3) := by decide +kernel
theorem dX2_copyFrom_98 : decode cX2_copyFrom 98 = .ok (.iload_n 2, 1) := by decide +kernel
theorem dX2_copyFrom_99 : decode cX2_copyFrom 99 = .ok (.aload_n 1, 1) := by decide +kernel
theorem dX2_copyFrom_100 : decode cX2_copyFrom 100 = .ok (.getfield 24, 3) := by decide +kernel
theorem dX2_copyFrom_103 : decode cX2_copyFrom 103 = .ok (.iload_n 2, 1) := by decide +kernel
theorem dX2_copyFrom_104 : decode cX2_copyFrom 104 = .ok (.iaload, 1) := by decide +kernel
theorem dX2_copyFrom_105 : decode cX2_copyFrom 105 = .ok (.iastore, 1) := by decide +kernel
theorem dX2_copyFrom_106 : decode cX2_copyFrom 106 = .ok (.iinc 2 1, 3) := by decide +kernel
theorem dX2_copyFrom_109 : decode cX2_copyFrom 109 = .ok (.goto (-21), 3) := by decide +kernel
theorem dX2_copyFrom_112 : decode cX2_copyFrom 112 = .ok (.return_, 1) := by decide +kernel
theorem dX3_init_0 : decode cX3_init 0 = .ok (.aload_n 0, 1) := by decide +kernel
theorem dX3_init_1 : decode cX3_init 1 = .ok (.invokespecial 1, 3) := by decide +kernel
theorem dX3_init_4 : decode cX3_init 4 = .ok (.aload_n 0, 1) := by decide +kernel
theorem dX3_init_5 : decode cX3_init 5 = .ok (.iconst 0, 1) := by decide +kernel
theorem dX3_init_6 : decode cX3_init 6 = .ok (.putfield 7, 3) := by decide +kernel
theorem dX3_init_9 : decode cX3_init 9 = .ok (.aload_n 0, 1) := by decide +kernel
theorem dX3_init_10 : decode cX3_init 10 = .ok (.iconst 0, 1) := by decide +kernel
theorem dX3_init_11 : decode cX3_init 11 = .ok (.putfield 13, 3) := by decide +kernel
theorem dX3_init_14 : decode cX3_init 14 = .ok (.aload_n 0, 1) := by decide +kernel
theorem dX3_init_15 : decode cX3_init 15 = .ok (.iconst 0, 1) := by decide +kernel
theorem dX3_init_16 : decode cX3_init 16 = .ok (.putfield 16, 3) := by decide +kernel
theorem dX3_init_19 : decode cX3_init 19 = .ok (.aload_n 0, 1) := by decide +kernel
theorem dX3_init_20 : decode cX3_init 20 = .ok (.iconst 0, 1) := by decide +kernel
theorem dX3_init_21 : decode cX3_init 21 = .ok (.putfield 19, 3) := by decide +kernel
theorem dX3_init_24 : decode cX3_init 24 = .ok (.aload_n 0, 1) := by decide +kernel
theorem dX3_init_25 : decode cX3_init 25 = .ok (.iconst 0, 1) := by decide +kernel
theorem dX3_init_26 : decode cX3_init 26 = .ok (.putfield 22, 3) := by decide +kernel
theorem dX3_init_29 : decode cX3_init 29 = .ok (.aload_n 0, 1) := by decide +kernel
theorem dX3_init_30 : decode cX3_init 30 = .ok (.iconst 0, 1) := by decide +kernel
theorem dX3_init_31 : decode cX3_init 31 = .ok (.putfield 25, 3) := by decide +kernel
theorem dX3_init_34 : decode cX3_init 34 = .ok (.aload_n 0, 1) := by decide +kernel
theorem dX3_init_35 : decode cX3_init 35 = .ok (.iconst 0, 1) := by decide +kernel
theorem dX3_init_36 : decode cX3_init 36 = .ok (.putfield 28, 3) := by decide +kernel
theorem dX3_init_39 : decode cX3_init 39 = .ok (.aload_n 0, 1) := by decide +kernel
theorem dX3_init_40 : decode cX3_init 40 = .ok (.iload_n 1, 1) := by decide +kernel
theorem dX3_init_41 : decode cX3_init 41 = .ok (.putfield 31, 3) := by decide +kernel
theorem dX3_init_44 : decode cX3_init 44 = .ok (.return_, 1) := by decide +kernel
theorem dX3_allows_0 : decode cX3_allows 0 = .ok (.aload_n 1, 1) := by decide +kernel
theorem dX3_allows_1 : decode cX3_allows 1 = .ok (.getfield 34, 3) := by decide +kernel
theorem dX3_allows_4 : decode cX3_allows 4 = .ok (.aload_n 0, 1) := by decide +kernel
theorem dX3_allows_5 : decode cX3_allows 5 = .ok (.getfield 7, 3) := by decide +kernel
theorem dX3_allows_8 : decode cX3_allows 8 = .ok (.imul, 1) := by decide +kernel
theorem dX3_allows_9 : decode cX3_allows 9 = .ok (.bipush 100, 2) := by decide +kernel
theorem dX3_allows_11 : decode cX3_allows 11 = .ok (.idiv, 1) := by decide +kernel
theorem dX3_allows_12 : decode cX3_allows 12 = .ok (.ireturn, 1) := by decide +kernel
theorem dX4_init_0 : decode cX4_init 0 = .ok (.aload_n 0, 1) := by decide +kernel
theorem dX4_init_1 : decode cX4_init 1 = .ok (.invokespecial 1, 3) := by decide +kernel
theorem dX4_init_4 : decode cX4_init 4 = .ok (.aload_n 0, 1) := by decide +kernel
theorem dX4_init_5 : decode cX4_init 5 = .ok (.bipush 8, 2) := by decide +kernel
theorem dX4_init_7 : decode cX4_init 7 = .ok (.anewarray 9, 3) := by decide +kernel
theorem dX4_init_10 : decode cX4_init 10 = .ok (.putfield 11, 3) := by decide +kernel
theorem dX4_init_13 : decode cX4_init 13 = .ok (.aload_n 0, 1) := by decide +kernel
theorem dX4_init_14 : decode cX4_init 14 = .ok (.bipush 6, 2) := by decide +kernel
theorem dX4_init_16 : decode cX4_init 16 = .ok (.anewarray 15, 3) := by decide +kernel
theorem dX4_init_19 : decode cX4_init 19 = .ok (.putfield 17, 3) := by decide +kernel
theorem dX4_init_22 : decode cX4_init 22 = .ok (.aload_n 0, 1) := by decide +kernel
theorem dX4_init_23 : decode cX4_init 23 = .ok (.iconst 4, 1) := by decide +kernel
theorem dX4_init_24 : decode cX4_init 24 = .ok (.anewarray 21, 3) := by decide +kernel
theorem dX4_init_27 : decode cX4_init 27 = .ok (.putfield 23, 3) := by decide +kernel
theorem dX4_init_30 : decode cX4_init 30 = .ok (.aload_n 0, 1) := by decide +kernel
theorem dX4_init_31 : decode cX4_init 31 = .ok (.iconst 3, 1) := by decide +kernel
theorem dX4_init_32 : decode cX4_init 32 = .ok (.newarray .int, 2) := by decide +kernel
theorem dX4_init_34 : decode cX4_init 34 = .ok (.putfield 27, 3) := by decide +kernel
theorem dX4_init_37 : decode cX4_init 37 = .ok (.aload_n 0, 1) := by decide +kernel
theorem dX4_init_38 : decode cX4_init 38 = .ok (.new 31, 3) := by decide +kernel
theorem dX4_init_41 : decode cX4_init 41 = .ok (.dup, 1) := by decide +kernel
theorem dX4_init_42 : decode cX4_init 42 = .ok (.invokespecial 33, 3) := by decide +kernel
theorem dX4_init_45 : decode cX4_init 45 = .ok (.putfield 34, 3) := by decide +kernel
theorem dX4_init_48 : decode cX4_init 48 = .ok (.aload_n 0, 1) := by decide +kernel
theorem dX4_init_49 : decode cX4_init 49 = .ok (.new 31, 3) := by decide +kernel
theorem dX4_init_52 : decode cX4_init 52 = .ok (.dup, 1) := by decide +kernel
theorem dX4_init_53 : decode cX4_init 53 = .ok (.invokespecial 33, 3) := by decide +kernel
theorem dX4_init_56 : decode cX4_init 56 = .ok (.putfield 38, 3) := by decide +kernel
theorem dX4_init_59 : decode cX4_init 59 = .ok (.aload_n 0, 1) := by decide +kernel
theorem dX4_init_60 : decode cX4_init 60 = .ok (.new 31, 3) := by decide +kernel
theorem dX4_init_63 : decode cX4_init 63 = .ok (.dup, 1) := by decide +kernel
theorem dX4_init_64 : decode cX4_init 64 = .ok (.invokespecial 33, 3) := by decide +kernel
theorem dX4_init_67 : decode cX4_init 67 = .ok (.putfield 41, 3) := by decide +kernel
theorem dX4_init_70 : decode cX4_init 70 = .ok (.aload_n 0, 1) := by decide +kernel
theorem dX4_init_71 : decode cX4_init 71 = .ok (.iconst 0, 1) := by decide +kernel
theorem dX4_init_72 : decode cX4_init 72 = .ok (.putfield 44, 3) := by decide +kernel
theorem dX4_init_75 : decode cX4_init 75 = .ok (.aload_n 0, 1) := by decide +kernel
theorem dX4_init_76 : decode cX4_init 76 = .ok (.iconst 0, 1) := by decide +kernel
theorem dX4_init_77 : decode cX4_init 77 = .ok (.putfield 48, 3) := by decide +kernel
theorem dX4_init_80 : decode cX4_init 80 = .ok (.aload_n 0, 1) := by decide +kernel
theorem dX4_init_81 : decode cX4_init 81 = .ok (.iconst 0, 1) := by decide +kernel
theorem dX4_init_82 : decode cX4_init 82 = .ok (.putfield 51, 3) := by decide +kernel
theorem dX4_init_85 : decode cX4_init 85 = .ok (.aload_n 0, 1) := by decide +kernel
theorem dX4_init_86 : decode cX4_init 86 = .ok (.aconst_null, 1) := by decide +kernel
theorem dX4_init_87 : decode cX4_init 87 = .ok (.putfield 54, 3) := by decide +kernel
theorem dX4_init_90 : decode cX4_init 90 = .ok (.aload_n 0, 1) := by decide +kernel
theorem dX4_init_91 : decode cX4_init 91 = .ok (.iconst 0, 1) := by decide +kernel
theorem dX4_init_92 : decode cX4_init 92 = .ok (.putfield 58, 3) := by decide +kernel
theorem dX4_init_95 : decode cX4_init 95 = .ok (.aload_n 0, 1) := by decide +kernel
theorem dX4_init_96 : decode cX4_init 96 = .ok (.iconst 0, 1) := by decide +kernel
theorem dX4_init_97 : decode cX4_init 97 = .ok (.putfield 61, 3) := by decide +kernel
theorem dX4_init_100 : decode cX4_init 100 = .ok (.iconst 0, 1) := by decide +kernel
theorem dX4_init_101 : decode cX4_init 101 = .ok (.istore_n 1, 1) := by decide +kernel
theorem dX4_init_102 : decode cX4_init 102 = .ok (.iload_n 1, 1) := by decide +kernel
theorem dX4_init_103 : decode cX4_init 103 = .ok (.bipush 8, 2) := by decide +kernel
theorem dX4_init_105 : decode cX4_init 105 = .ok (.if_icmp .ge 22, 3) := by decide +kernel
theorem dX4_init_108 : decode cX4_init 108 = .ok (.aload_n 0, 1) := by decide +kernel
theorem dX4_init_109 : decode cX4_init 109 = .ok (.getfield 11, 3) := by decide +kernel
theorem dX4_init_112 : decode cX4_init 112 = .ok (.iload_n 1, 1) := by decide +kernel
theorem dX4_init_113 : decode cX4_init 113 = .ok (.new 9, 3) := by decide +kernel
theorem dX4_init_116 : decode cX4_init 116 = .ok (.dup, 1) := by decide +kernel
theorem dX4_init_117 : decode cX4_init 117 = .ok (.invokespecial 64, 3) := by decide +kernel
theorem dX4_init_120 : decode cX4_init 120 = .ok (.aastore, 1) := by decide +kernel
theorem dX4_init_121 : decode cX4_init 121 = .ok (.iinc 1 1, 3) := by decide +kernel
theorem dX4_init_124 : decode cX4_init 124 = .ok (.goto (-22), 3) := by decide +kernel
theorem dX4_init_127 : decode cX4_init 127 = .ok (.iconst 0, 1) := by decide +kernel
theorem dX4_init_128 : decode cX4_init 128 = .ok (.istore_n 1, 1) := by decide +kernel
theorem dX4_init_129 : decode cX4_init 129 = .ok (.iload_n 1, 1) := by decide +kernel
theorem dX4_init_130 : decode cX4_init 130 = .ok (.bipush 6, 2) := by decide +kernel
theorem dX4_init_132 : decode cX4_init 132 = .ok (.if_icmp .ge 22, 3) := by decide +kernel
theorem dX4_init_135 : decode cX4_init 135 = .ok (.aload_n 0, 1) := by decide +kernel
theorem dX4_init_136 : decode cX4_init 136 = .ok (.getfield 17, 3) := by decide +kernel
theorem dX4_init_139 : decode cX4_init 139 = .ok (.iload_n 1, 1) := by decide +kernel
theorem dX4_init_140 : decode cX4_init 140 = .ok (.new 15, 3) := by decide +kernel
theorem dX4_init_143 : decode cX4_init 143 = .ok (.dup, 1) := by decide +kernel
theorem dX4_init_144 : decode cX4_init 144 = .ok (.invokespecial 65, 3) := by decide +kernel
theorem dX4_init_147 : decode cX4_init 147 = .ok (.aastore, 1) := by decide +kernel
theorem dX4_init_148 : decode cX4_init 148 = .ok (.iinc 1 1, 3) := by decide +kernel
theorem dX4_init_151 : decode cX4_init 151 = .ok (.goto (-22), 3) := by decide +kernel
theorem dX4_init_154 : decode cX4_init 154 = .ok (.iconst 0, 1) := by decide +kernel
theorem dX4_init_155 : decode cX4_init 155 = .ok (.istore_n 1, 1) := by decide +kernel
theorem dX4_init_156 : decode cX4_init 156 = .ok (.iload_n 1, 1) := by decide +kernel
theorem dX4_init_157 : decode cX4_init 157 = .ok (.iconst 4, 1) := by decide +kernel
theorem dX4_init_158 : decode cX4_init 158 = .ok (.if_icmp .ge 23, 3) := by decide +kernel
theorem dX4_init_161 : decode cX4_init 161 = .ok (.aload_n 0, 1) := by decide +kernel
theorem dX4_init_162 : decode cX4_init 162 = .ok (.getfield 23, 3) := by decide +kernel
theorem dX4_init_165 : decode cX4_init 165 = .ok (.iload_n 1, 1) := by decide +kernel
theorem dX4_init_166 : decode cX4_init 166 = .ok (.new 21, 3) := by decide +kernel
theorem dX4_init_169 : decode cX4_init 169 = .ok (.dup, 1) := by decide +kernel
theorem dX4_init_170 : decode cX4_init 170 = .ok (.iload_n 1, 1) := by decide +kernel
theorem dX4_init_171 : decode cX4_init 171 = .ok (.invokespecial 66, 3) := by decide +kernel
theorem dX4_init_174 : decode cX4_init 174 = .ok (.aastore, 1) := by decide +kernel
theorem dX4_init_175 : decode cX4_init 175 = .ok (.iinc 1 1, 3) := by decide +kernel
theorem dX4_init_178 : decode cX4_init 178 = .ok (.goto (-22), 3) := by decide +kernel
theorem dX4_init_181 : decode cX4_init 181 = .ok (.return_, 1) := by decide +kernel
theorem dX4_addPoint_0 : decode cX4_addPoint 0 = .ok (.iload_n 1, 1) := by decide +kernel
theorem dX4_addPoint_1 : decode cX4_addPoint 1 = .ok (.iconst 0, 1) := by decide +kernel
theorem dX4_addPoint_2 : decode cX4_addPoint 2 = .ok (.bipush 60, 2) := by decide +kernel
theorem dX4_addPoint_4 : decode cX4_addPoint 4 = .ok (.invokestatic 69, 3) := by decide +kernel
theorem dX4_addPoint_7 : decode cX4_addPoint 7 = .ok (.ifCond .ne 15, 3) := by decide +kernel
theorem dX4_addPoint_10 : decode cX4_addPoint 10 = .ok (.iload_n 2, 1) := by decide +kernel
theorem dX4_addPoint_11 : decode cX4_addPoint 11 = .ok (.bipush 100, 2) := by decide +kernel
theorem dX4_addPoint_13 : decode cX4_addPoint 13 = .ok (.sipush 5000, 3) := by decide +kernel
theorem dX4_addPoint_16 : decode cX4_addPoint 16 = .ok (.invokestatic 69, 3) := by decide +kernel
theorem dX4_addPoint_19 : decode cX4_addPoint 19 = .ok (.ifCond .eq 13, 3) := by decide +kernel
theorem dX4_addPoint_22 : decode cX4_addPoint 22 = .ok (.new 73, 3) := by decide +kernel
theorem dX4_addPoint_25 : decode cX4_addPoint 25 = .ok (.dup, 1) := by decide +kernel
theorem dX4_addPoint_26 : decode cX4_addPoint 26 = .ok (.ldc 75, 2) := by decide +kernel
theorem dX4_addPoint_28 : decode cX4_addPoint 28 = .ok (.invokespecial 77, 3) := by decide +kernel
theorem dX4_addPoint_31 : decode cX4_addPoint 31 = .ok (.athrow, 1) := by decide +kernel
theorem dX4_addPoint_32 : decode cX4_addPoint 32 = .ok (.aload_n 0, 1) := by decide +kernel
theorem dX4_addPoint_33 : decode cX4_addPoint 33 = .ok (.getfield 44, 3) := by decide +kernel
theorem dX4_addPoint_36 : decode cX4_addPoint 36 = .ok (.bipush 8, 2) := by decide +kernel
theorem dX4_addPoint_38 : decode cX4_addPoint 38 = .ok (.if_icmp .lt 13, 3) := by decide +kernel
theorem dX4_addPoint_41 : decode cX4_addPoint 41 = .ok (.new 80, 3) := by decide +kernel
theorem dX4_addPoint_44 : decode cX4_addPoint 44 = .ok (.dup, 1) := by decide +kernel
theorem dX4_addPoint_45 : decode cX4_addPoint 45 = .ok (.ldc 82, 2) := by decide +kernel
theorem dX4_addPoint_47 : decode cX4_addPoint 47 = .ok (.invokespecial 84, 3) := by decide +kernel
theorem dX4_addPoint_50 : decode cX4_addPoint 50 = .ok (.athrow, 1) := by decide +kernel
theorem dX4_addPoint_51 : decode cX4_addPoint 51 = .ok (.aload_n 0, 1) := by decide +kernel
theorem dX4_addPoint_52 : decode cX4_addPoint 52 = .ok (.getfield 44, 3) := by decide +kernel
theorem dX4_addPoint_55 : decode cX4_addPoint 55 = .ok (.istore_n 3, 1) := by decide +kernel
theorem dX4_addPoint_56 : decode cX4_addPoint 56 = .ok (.aload_n 0, 1) := by decide +kernel
theorem dX4_addPoint_57 : decode cX4_addPoint 57 = .ok (.getfield 11, 3) := by decide +kernel
theorem dX4_addPoint_60 : decode cX4_addPoint 60 = .ok (.iload_n 3, 1) := by decide +kernel
theorem dX4_addPoint_61 : decode cX4_addPoint 61 = .ok (.aaload, 1) := by decide +kernel
theorem dX4_addPoint_62 : decode cX4_addPoint 62 = .ok (.iload_n 1, 1) := by decide +kernel
theorem dX4_addPoint_63 : decode cX4_addPoint 63 = .ok (.putfield 85, 3) := by decide +kernel
theorem dX4_addPoint_66 : decode cX4_addPoint 66 = .ok (.aload_n 0, 1) := by decide +kernel
theorem dX4_addPoint_67 : decode cX4_addPoint 67 = .ok (.getfield 11, 3) := by decide +kernel
theorem dX4_addPoint_70 : decode cX4_addPoint 70 = .ok (.iload_n 3, 1) := by decide +kernel
theorem dX4_addPoint_71 : decode cX4_addPoint 71 = .ok (.aaload, 1) := by decide +kernel
theorem dX4_addPoint_72 : decode cX4_addPoint 72 = .ok (.iload_n 2, 1) := by decide +kernel
theorem dX4_addPoint_73 : decode cX4_addPoint 73 = .ok (.putfield 88, 3) := by decide +kernel
theorem dX4_addPoint_76 : decode cX4_addPoint 76 = .ok (.aload_n 0, 1) := by decide +kernel
theorem dX4_addPoint_77 : decode cX4_addPoint 77 = .ok (.iload_n 3, 1) := by decide +kernel
theorem dX4_addPoint_78 : decode cX4_addPoint 78 = .ok (.iconst 1, 1) := by decide +kernel
theorem dX4_addPoint_79 : decode cX4_addPoint 79 = .ok (.iadd, 1) := by decide +kernel
theorem dX4_addPoint_80 : decode cX4_addPoint 80 = .ok (.putfield 44, 3) := by decide +kernel
theorem dX4_addPoint_83 : decode cX4_addPoint 83 = .ok (.iload_n 3, 1) := by decide +kernel
theorem dX4_addPoint_84 : decode cX4_addPoint 84 = .ok (.ireturn, 1) := by decide +kernel
theorem dX4_addPiece_0 : decode cX4_addPiece 0 = .ok (.iload_n 1, 1) := by decide +kernel
theorem dX4_addPiece_1 : decode cX4_addPiece 1 = .ok (.bipush 10, 2) := by decide +kernel
theorem dX4_addPiece_3 : decode cX4_addPiece 3 = .ok (.sipush 2000, 3) := by decide +kernel
theorem dX4_addPiece_6 : decode cX4_addPiece 6 = .ok (.invokestatic 69, 3) := by decide +kernel
theorem dX4_addPiece_9 : decode cX4_addPiece 9 = .ok (.ifCond .ne 34, 3) := by decide +kernel
theorem dX4_addPiece_12 : decode cX4_addPiece 12 = .ok (.iload_n 2, 1) := by decide +kernel
theorem dX4_addPiece_13 : decode cX4_addPiece 13 = .ok (.iconst 5, 1) := by decide +kernel
theorem dX4_addPiece_14 : decode cX4_addPiece 14 = .ok (.sipush 240, 3) := by decide +kernel
theorem dX4_addPiece_17 : decode cX4_addPiece 17 = .ok (.invokestatic 69, 3) := by decide +kernel
theorem dX4_addPiece_20 : decode cX4_addPiece 20 = .ok (.ifCond .ne 23, 3) := by decide +kernel
theorem dX4_addPiece_23 : decode cX4_addPiece 23 = .ok (.iload_n 3, 1) := by decide +kernel
theorem dX4_addPiece_24 : decode cX4_addPiece 24 = .ok (.iconst 1, 1) := by decide +kernel
theorem dX4_addPiece_25 : decode cX4_addPiece 25 = .ok (.bipush 99, 2) := by decide +kernel
theorem dX4_addPiece_27 : decode cX4_addPiece 27 = .ok (.invokestatic 69, 3) := by decide +kernel
theorem dX4_addPiece_30 : decode cX4_addPiece 30 = .ok (.ifCond .ne 13, 3) := by decide +kernel
theorem dX4_addPiece_33 : decode cX4_addPiece 33 = .ok (.iload 4, 2) := by decide +kernel
theorem dX4_addPiece_35 : decode cX4_addPiece 35 = .ok (.iconst 0, 1) := by decide +kernel
theorem dX4_addPiece_36 : decode cX4_addPiece 36 = .ok (.iconst 2, 1) := by decide +kernel
theorem dX4_addPiece_37 : decode cX4_addPiece 37 = .ok (.invokestatic 69, 3) := by decide +kernel
theorem dX4_addPiece_40 : decode cX4_addPiece 40 = .ok (.ifCond .eq 13, 3) := by decide +kernel
theorem dX4_addPiece_43 : decode cX4_addPiece 43 = .ok (.new 73, 3) := by decide +kernel
theorem dX4_addPiece_46 : decode cX4_addPiece 46 = .ok (.dup, 1) := by decide +kernel
theorem dX4_addPiece_47 : decode cX4_addPiece 47 = .ok (.ldc 91, 2) := by decide +kernel
theorem dX4_addPiece_49 : decode cX4_addPiece 49 = .ok (.invokespecial 77, 3) := by decide +kernel
theorem dX4_addPiece_52 : decode cX4_addPiece 52 = .ok (.athrow, 1) := by decide +kernel
theorem dX4_addPiece_53 : decode cX4_addPiece 53 = .ok (.aload_n 0, 1) := by decide +kernel
theorem dX4_addPiece_54 : decode cX4_addPiece 54 = .ok (.getfield 48, 3) := by decide +kernel
theorem dX4_addPiece_57 : decode cX4_addPiece 57 = .ok (.bipush 6, 2) := by decide +kernel
theorem dX4_addPiece_59 : decode cX4_addPiece 59 = .ok (.if_icmp .lt 13, 3) := by decide +kernel
theorem dX4_addPiece_62 : decode cX4_addPiece 62 = .ok (.new 80, 3) := by decide +kernel
theorem dX4_addPiece_65 : decode cX4_addPiece 65 = .ok (.dup, 1) := by decide +kernel
theorem dX4_addPiece_66 : decode cX4_addPiece 66 = .ok (.ldc 93, 2) := by decide +kernel
theorem dX4_addPiece_68 : decode cX4_addPiece 68 = .ok (.invokespecial 84, 3) := by decide +kernel
theorem dX4_addPiece_71 : decode cX4_addPiece 71 = .ok (.athrow, 1) := by decide +kernel
theorem dX4_addPiece_72 : decode cX4_addPiece 72 = .ok (.aload_n 0, 1) := by decide +kernel
theorem dX4_addPiece_73 : decode cX4_addPiece 73 = .ok (.getfield 48, 3) := by decide +kernel
theorem dX4_addPiece_76 : decode cX4_addPiece 76 = .ok (.istore 5, 2) := by decide +kernel
theorem dX4_addPiece_78 : decode cX4_addPiece 78 = .ok (.aload_n 0, 1) := by decide +kernel
theorem dX4_addPiece_79 : decode cX4_addPiece 79 = .ok (.getfield 17, 3) := by decide +kernel
theorem dX4_addPiece_82 : decode cX4_addPiece 82 = .ok (.iload 5, 2) := by decide +kernel
theorem dX4_addPiece_84 : decode cX4_addPiece 84 = .ok (.aaload, 1) := by decide +kernel
theorem dX4_addPiece_85 : decode cX4_addPiece 85 = .ok (.astore 6, 2) := by decide +kernel
theorem dX4_addPiece_87 : decode cX4_addPiece 87 = .ok (.aload 6, 2) := by decide +kernel
theorem dX4_addPiece_89 : decode cX4_addPiece 89 = .ok (.iload_n 1, 1) := by decide +kernel
theorem dX4_addPiece_90 : decode cX4_addPiece 90 = .ok (.putfield 95, 3) := by decide +kernel
theorem dX4_addPiece_93 : decode cX4_addPiece 93 = .ok (.aload 6, 2) := by decide +kernel
theorem dX4_addPiece_95 : decode cX4_addPiece 95 = .ok (.iload_n 2, 1) := by decide +kernel
theorem dX4_addPiece_96 : decode cX4_addPiece 96 = .ok (.putfield 98, 3) := by decide +kernel
theorem dX4_addPiece_99 : decode cX4_addPiece 99 = .ok (.aload 6, 2) := by decide +kernel
theorem dX4_addPiece_101 : decode cX4_addPiece 101 = .ok (.iload_n 3, 1) := by decide +kernel
theorem dX4_addPiece_102 : decode cX4_addPiece 102 = .ok (.putfield 101, 3) := by decide +kernel
theorem dX4_addPiece_105 : decode cX4_addPiece 105 = .ok (.aload 6, 2) := by decide +kernel
theorem dX4_addPiece_107 : decode cX4_addPiece 107 = .ok (.iload 4, 2) := by decide +kernel
theorem dX4_addPiece_109 : decode cX4_addPiece 109 = .ok (.putfield 104, 3) := by decide +kernel
theorem dX4_addPiece_112 : decode cX4_addPiece 112 = .ok (.aload_n 0, 1) := by decide +kernel
theorem dX4_addPiece_113 : decode cX4_addPiece 113 = .ok (.iload 5, 2) := by decide +kernel
theorem dX4_addPiece_115 : decode cX4_addPiece 115 = .ok (.iconst 1, 1) := by decide +kernel
theorem dX4_addPiece_116 : decode cX4_addPiece 116 = .ok (.iadd, 1) := by decide +kernel
theorem dX4_addPiece_117 : decode cX4_addPiece 117 = .ok (.putfield 48, 3) := by decide +kernel
theorem dX4_addPiece_120 : decode cX4_addPiece 120 = .ok (.iload 5, 2) := by decide +kernel
theorem dX4_addPiece_122 : decode cX4_addPiece 122 = .ok (.ireturn, 1) := by decide +kernel
theorem dX4_fix_0 : decode cX4_fix 0 = .ok (.aload_n 0, 1) := by decide +kernel
theorem dX4_fix_1 : decode cX4_fix 1 = .ok (.iload_n 1, 1) := by decide +kernel
theorem dX4_fix_2 : decode cX4_fix 2 = .ok (.invokevirtual 107, 3) := by decide +kernel
theorem dX4_fix_5 : decode cX4_fix 5 = .ok (.aload_n 0, 1) := by decide +kernel
theorem dX4_fix_6 : decode cX4_fix 6 = .ok (.iload_n 2, 1) := by decide +kernel
theorem dX4_fix_7 : decode cX4_fix 7 = .ok (.invokevirtual 110, 3) := by decide +kernel
theorem dX4_fix_10 : decode cX4_fix 10 = .ok (.aload_n 0, 1) := by decide +kernel
theorem dX4_fix_11 : decode cX4_fix 11 = .ok (.iload_n 3, 1) := by decide +kernel
theorem dX4_fix_12 : decode cX4_fix 12 = .ok (.invokevirtual 110, 3) := by decide +kernel
theorem dX4_fix_15 : decode cX4_fix 15 = .ok (.aload_n 0, 1) := by decide +kernel
theorem dX4_fix_16 : decode cX4_fix 16 = .ok (.getfield 11, 3) := by decide +kernel
theorem dX4_fix_19 : decode cX4_fix 19 = .ok (.iload_n 2, 1) := by decide +kernel
theorem dX4_fix_20 : decode cX4_fix 20 = .ok (.aaload, 1) := by decide +kernel
theorem dX4_fix_21 : decode cX4_fix 21 = .ok (.getfield 85, 3) := by decide +kernel
theorem dX4_fix_24 : decode cX4_fix 24 = .ok (.istore 6, 2) := by decide +kernel
theorem dX4_fix_26 : decode cX4_fix 26 = .ok (.aload_n 0, 1) := by decide +kernel
theorem dX4_fix_27 : decode cX4_fix 27 = .ok (.getfield 11, 3) := by decide +kernel
theorem dX4_fix_30 : decode cX4_fix 30 = .ok (.iload_n 3, 1) := by decide +kernel
theorem dX4_fix_31 : decode cX4_fix 31 = .ok (.aaload, 1) := by decide +kernel
theorem dX4_fix_32 : decode cX4_fix 32 = .ok (.getfield 85, 3) := by decide +kernel
theorem dX4_fix_35 : decode cX4_fix 35 = .ok (.istore 7, 2) := by decide +kernel
theorem dX4_fix_37 : decode cX4_fix 37 = .ok (.iload 7, 2) := by decide +kernel
theorem dX4_fix_39 : decode cX4_fix 39 = .ok (.iload 6, 2) := by decide +kernel
theorem dX4_fix_41 : decode cX4_fix 41 = .ok (.isub, 1) := by decide +kernel
theorem dX4_fix_42 : decode cX4_fix 42 = .ok (.istore 8, 2) := by decide +kernel
theorem dX4_fix_44 : decode cX4_fix 44 = .ok (.iload 8, 2) := by decide +kernel
theorem dX4_fix_46 : decode cX4_fix 46 = .ok (.ifCond .le 26, 3) := by decide +kernel
theorem dX4_fix_49 : decode cX4_fix 49 = .ok (.iload 4, 2) := by decide +kernel
theorem dX4_fix_51 : decode cX4_fix 51 = .ok (.iload 6, 2) := by decide +kernel
theorem dX4_fix_53 : decode cX4_fix 53 = .ok (.iload 7, 2) := by decide +kernel
theorem dX4_fix_55 : decode cX4_fix 55 = .ok (.invokestatic 69, 3) := by decide +kernel
theorem dX4_fix_58 : decode cX4_fix 58 = .ok (.ifCond .ne 14, 3) := by decide +kernel
theorem dX4_fix_61 : decode cX4_fix 61 = .ok (.iload 5, 2) := by decide +kernel
theorem dX4_fix_63 : decode cX4_fix 63 = .ok (.iconst 0, 1) := by decide +kernel
theorem dX4_fix_64 : decode cX4_fix 64 = .ok (.bipush 60, 2) := by decide +kernel
theorem dX4_fix_66 : decode cX4_fix 66 = .ok (.invokestatic 69, 3) := by decide +kernel
theorem dX4_fix_69 : decode cX4_fix 69 = .ok (.ifCond .eq 13, 3) := by decide +kernel
theorem dX4_fix_72 : decode cX4_fix 72 = .ok (.new 73, 3) := by decide +kernel
theorem dX4_fix_75 : decode cX4_fix 75 = .ok (.dup, 1) := by decide +kernel
theorem dX4_fix_76 : decode cX4_fix 76 = .ok (.ldc 113, 2) := by decide +kernel
theorem dX4_fix_78 : decode cX4_fix 78 = .ok (.invokespecial 77, 3) := by decide +kernel
theorem dX4_fix_81 : decode cX4_fix 81 = .ok (.athrow, 1) := by decide +kernel
theorem dX4_fix_82 : decode cX4_fix 82 = .ok (.aload_n 0, 1) := by decide +kernel
theorem dX4_fix_83 : decode cX4_fix 83 = .ok (.iload_n 1, 1) := by decide +kernel
theorem dX4_fix_84 : decode cX4_fix 84 = .ok (.invokevirtual 115, 3) := by decide +kernel
theorem dX4_fix_87 : decode cX4_fix 87 = .ok (.aload_n 0, 1) := by decide +kernel
theorem dX4_fix_88 : decode cX4_fix 88 = .ok (.getfield 17, 3) := by decide +kernel
theorem dX4_fix_91 : decode cX4_fix 91 = .ok (.iload_n 1, 1) := by decide +kernel
theorem dX4_fix_92 : decode cX4_fix 92 = .ok (.aaload, 1) := by decide +kernel
theorem dX4_fix_93 : decode cX4_fix 93 = .ok (.astore 9, 2) := by decide +kernel
theorem dX4_fix_95 : decode cX4_fix 95 = .ok (.aload 9, 2) := by decide +kernel
theorem dX4_fix_97 : decode cX4_fix 97 = .ok (.getfield 95, 3) := by decide +kernel
theorem dX4_fix_100 : decode cX4_fix 100 = .ok (.iload 4, 2) := by decide +kernel
theorem dX4_fix_102 : decode cX4_fix 102 = .ok (.iload 6, 2) := by decide +kernel
theorem dX4_fix_104 : decode cX4_fix 104 = .ok (.isub, 1) := by decide +kernel
theorem dX4_fix_105 : decode cX4_fix 105 = .ok (.imul, 1) := by decide +kernel
theorem dX4_fix_106 : decode cX4_fix 106 = .ok (.iload 8, 2) := by decide +kernel
theorem dX4_fix_108 : decode cX4_fix 108 = .ok (.idiv, 1) := by decide +kernel
theorem dX4_fix_109 : decode cX4_fix 109 = .ok (.istore 10, 2) := by decide +kernel
theorem dX4_fix_111 : decode cX4_fix 111 = .ok (.aload 9, 2) := by decide +kernel
theorem dX4_fix_113 : decode cX4_fix 113 = .ok (.iload_n 2, 1) := by decide +kernel
theorem dX4_fix_114 : decode cX4_fix 114 = .ok (.putfield 118, 3) := by decide +kernel
theorem dX4_fix_117 : decode cX4_fix 117 = .ok (.aload 9, 2) := by decide +kernel
theorem dX4_fix_119 : decode cX4_fix 119 = .ok (.iload_n 3, 1) := by decide +kernel
theorem dX4_fix_120 : decode cX4_fix 120 = .ok (.putfield 121, 3) := by decide +kernel
theorem dX4_fix_123 : decode cX4_fix 123 = .ok (.aload 9, 2) := by decide +kernel
theorem dX4_fix_125 : decode cX4_fix 125 = .ok (.aload 9, 2) := by decide +kernel
theorem dX4_fix_127 : decode cX4_fix 127 = .ok (.getfield 95, 3) := by decide +kernel
theorem dX4_fix_130 : decode cX4_fix 130 = .ok (.iload 10, 2) := by decide +kernel
theorem dX4_fix_132 : decode cX4_fix 132 = .ok (.isub, 1) := by decide +kernel
theorem dX4_fix_133 : decode cX4_fix 133 = .ok (.iload 5, 2) := by decide +kernel
theorem dX4_fix_135 : decode cX4_fix 135 = .ok (.invokestatic 124, 3) := by decide +kernel
theorem dX4_fix_138 : decode cX4_fix 138 = .ok (.putfield 128, 3) := by decide +kernel
theorem dX4_fix_141 : decode cX4_fix 141 = .ok (.aload 9, 2) := by decide +kernel
theorem dX4_fix_143 : decode cX4_fix 143 = .ok (.iload 10, 2) := by decide +kernel
theorem dX4_fix_145 : decode cX4_fix 145 = .ok (.iload 5, 2) := by decide +kernel
theorem dX4_fix_147 : decode cX4_fix 147 = .ok (.invokestatic 124, 3) := by decide +kernel
theorem dX4_fix_150 : decode cX4_fix 150 = .ok (.putfield 131, 3) := by decide +kernel
theorem dX4_fix_153 : decode cX4_fix 153 = .ok (.iload 10, 2) := by decide +kernel
theorem dX4_fix_155 : decode cX4_fix 155 = .ok (.ireturn, 1) := by decide +kernel
theorem dX4_need_0 : decode cX4_need 0 = .ok (.aload_n 0, 1) := by decide +kernel
theorem dX4_need_1 : decode cX4_need 1 = .ok (.iload_n 1, 1) := by decide +kernel
theorem dX4_need_2 : decode cX4_need 2 = .ok (.invokevirtual 107, 3) := by decide +kernel
theorem dX4_need_5 : decode cX4_need 5 = .ok (.aload_n 0, 1) := by decide +kernel
theorem dX4_need_6 : decode cX4_need 6 = .ok (.iload_n 2, 1) := by decide +kernel
theorem dX4_need_7 : decode cX4_need 7 = .ok (.invokevirtual 107, 3) := by decide +kernel
theorem dX4_need_10 : decode cX4_need 10 = .ok (.iload_n 1, 1) := by decide +kernel
theorem dX4_need_11 : decode cX4_need 11 = .ok (.iload_n 2, 1) := by decide +kernel
theorem dX4_need_12 : decode cX4_need 12 = .ok (.if_icmp .ne 13, 3) := by decide +kernel
theorem dX4_need_15 : decode cX4_need 15 = .ok (.new 73, 3) := by decide +kernel
theorem dX4_need_18 : decode cX4_need 18 = .ok (.dup, 1) := by decide +kernel
theorem dX4_need_19 : decode cX4_need 19 = .ok (.ldc 134, 2) := by decide +kernel
theorem dX4_need_21 : decode cX4_need 21 = .ok (.invokespecial 77, 3) := by decide +kernel
theorem dX4_need_24 : decode cX4_need 24 = .ok (.athrow, 1) := by decide +kernel
theorem dX4_need_25 : decode cX4_need 25 = .ok (.iload_n 1, 1) := by decide +kernel
theorem dX4_need_26 : decode cX4_need 26 = .ok (.aload_n 0, 1) := by decide +kernel
theorem dX4_need_27 : decode cX4_need 27 = .ok (.iload_n 2, 1) := by decide +kernel
theorem dX4_need_28 : decode cX4_need 28 = .ok (.invokevirtual 136, 3) := by decide +kernel
theorem dX4_need_31 : decode cX4_need 31 = .ok (.invokestatic 140, 3) := by decide +kernel
theorem dX4_need_34 : decode cX4_need 34 = .ok (.ifCond .eq 13, 3) := by decide +kernel
theorem dX4_need_37 : decode cX4_need 37 = .ok (.new 144, 3) := by decide +kernel
theorem dX4_need_40 : decode cX4_need 40 = .ok (.dup, 1) := by decide +kernel
theorem dX4_need_41 : decode cX4_need 41 = .ok (.ldc 146, 2) := by decide +kernel
theorem dX4_need_43 : decode cX4_need 43 = .ok (.invokespecial 148, 3) := by decide +kernel
theorem dX4_need_46 : decode cX4_need 46 = .ok (.athrow, 1) := by decide +kernel
theorem dX4_need_47 : decode cX4_need 47 = .ok (.aload_n 0, 1) := by decide +kernel
theorem dX4_need_48 : decode cX4_need 48 = .ok (.iload_n 1, 1) := by decide +kernel
theorem dX4_need_49 : decode cX4_need 49 = .ok (.invokevirtual 115, 3) := by decide +kernel
theorem dX4_need_52 : decode cX4_need 52 = .ok (.aload_n 0, 1) := by decide +kernel
theorem dX4_need_53 : decode cX4_need 53 = .ok (.getfield 17, 3) := by decide +kernel
theorem dX4_need_56 : decode cX4_need 56 = .ok (.iload_n 1, 1) := by decide +kernel
theorem dX4_need_57 : decode cX4_need 57 = .ok (.aaload, 1) := by decide +kernel
theorem dX4_need_58 : decode cX4_need 58 = .ok (.dup, 1) := by decide +kernel
theorem dX4_need_59 : decode cX4_need 59 = .ok (.getfield 149, 3) := by decide +kernel
theorem dX4_need_62 : decode cX4_need 62 = .ok (.iconst 1, 1) := by decide +kernel
theorem dX4_need_63 : decode cX4_need 63 = .ok (.iload_n 2, 1) := by decide +kernel
theorem dX4_need_64 : decode cX4_need 64 = .ok (.ishl, 1) := by decide +kernel
theorem dX4_need_65 : decode cX4_need 65 = .ok (.ior, 1) := by decide +kernel
theorem dX4_need_66 : decode cX4_need 66 = .ok (.putfield 149, 3) := by decide +kernel
theorem dX4_need_69 : decode cX4_need 69 = .ok (.aload_n 0, 1) := by decide +kernel
theorem dX4_need_70 : decode cX4_need 70 = .ok (.getfield 17, 3) := by decide +kernel
theorem dX4_need_73 : decode cX4_need 73 = .ok (.iload_n 1, 1) := by decide +kernel
theorem dX4_need_74 : decode cX4_need 74 = .ok (.aaload, 1) := by decide +kernel
theorem dX4_need_75 : decode cX4_need 75 = .ok (.getfield 149, 3) := by decide +kernel
theorem dX4_need_78 : decode cX4_need 78 = .ok (.invokestatic 152, 3) := by decide +kernel
theorem dX4_need_81 : decode cX4_need 81 = .ok (.ireturn, 1) := by decide +kernel
theorem dX4_setArrival_0 : decode cX4_setArrival 0 = .ok (.iload_n 1, 1) := by decide +kernel
theorem dX4_setArrival_1 : decode cX4_setArrival 1 = .ok (.iconst 0, 1) := by decide +kernel
theorem dX4_setArrival_2 : decode cX4_setArrival 2 = .ok (.iconst 2, 1) := by decide +kernel
theorem dX4_setArrival_3 : decode cX4_setArrival 3 = .ok (.invokestatic 69, 3) := by decide +kernel
theorem dX4_setArrival_6 : decode cX4_setArrival 6 = .ok (.ifCond .eq 13, 3) := by decide +kernel
theorem dX4_setArrival_9 : decode cX4_setArrival 9 = .ok (.new 157, 3) := by decide +kernel
theorem dX4_setArrival_12 : decode cX4_setArrival 12 = .ok (.dup, 1) := by decide +kernel
theorem dX4_setArrival_13 : decode cX4_setArrival 13 = .ok (.ldc 159, 2) := by decide +kernel
theorem dX4_setArrival_15 : decode cX4_setArrival 15 = .ok (.invokespecial 161, 3) := by decide +kernel
theorem dX4_setArrival_18 : decode cX4_setArrival 18 = .ok (.athrow, 1) := by decide +kernel
theorem dX4_setArrival_19 : decode cX4_setArrival 19 = .ok (.iload_n 2, 1) := by decide +kernel
theorem dX4_setArrival_20 : decode cX4_setArrival 20 = .ok (.iconst 0, 1) := by decide +kernel
theorem dX4_setArrival_21 : decode cX4_setArrival 21 = .ok (.sipush 1440, 3) := by decide +kernel
theorem dX4_setArrival_24 : decode cX4_setArrival 24 = .ok (.invokestatic 69, 3) := by decide +kernel
theorem dX4_setArrival_27 : decode cX4_setArrival 27 = .ok (.ifCond .eq 13, 3) := by decide +kernel
theorem dX4_setArrival_30 : decode cX4_setArrival 30 = .ok (.new 73, 3) := by decide +kernel
theorem dX4_setArrival_33 : decode cX4_setArrival 33 = .ok (.dup, 1) := by decide +kernel
theorem dX4_setArrival_34 : decode cX4_setArrival 34 = .ok (.ldc 162, 2) := by decide +kernel
theorem dX4_setArrival_36 : decode cX4_setArrival 36 = .ok (.invokespecial 77, 3) := by decide +kernel
theorem dX4_setArrival_39 : decode cX4_setArrival 39 = .ok (.athrow, 1) := by decide +kernel
theorem dX4_setArrival_40 : decode cX4_setArrival 40 = .ok (.aload_n 0, 1) := by decide +kernel
theorem dX4_setArrival_41 : decode cX4_setArrival 41 = .ok (.iload_n 1, 1) := by decide +kernel
theorem dX4_setArrival_42 : decode cX4_setArrival 42 = .ok (.invokevirtual 164, 3) := by decide +kernel
theorem dX4_setArrival_45 : decode cX4_setArrival 45 = .ok (.ifCond .eq 13, 3) := by decide +kernel
theorem dX4_setArrival_48 : decode cX4_setArrival 48 = .ok (.new 80, 3) := by decide +kernel
theorem dX4_setArrival_51 : decode cX4_setArrival 51 = .ok (.dup, 1) := by decide +kernel
theorem dX4_setArrival_52 : decode cX4_setArrival 52 = .ok (.ldc 168, 2) := by decide +kernel
theorem dX4_setArrival_54 : decode cX4_setArrival 54 = .ok (.invokespecial 84, 3) := by decide +kernel
theorem dX4_setArrival_57 : decode cX4_setArrival 57 = .ok (.athrow, 1) := by decide +kernel
theorem dX4_setArrival_58 : decode cX4_setArrival 58 = .ok (.aload_n 0, 1) := by decide +kernel
theorem dX4_setArrival_59 : decode cX4_setArrival 59 = .ok (.getfield 27, 3) := by decide +kernel
theorem dX4_setArrival_62 : decode cX4_setArrival 62 = .ok (.iload_n 1, 1) := by decide +kernel
theorem dX4_setArrival_63 : decode cX4_setArrival 63 = .ok (.iaload, 1) := by decide +kernel
theorem dX4_setArrival_64 : decode cX4_setArrival 64 = .ok (.istore_n 3, 1) := by decide +kernel
theorem dX4_setArrival_65 : decode cX4_setArrival 65 = .ok (.aload_n 0, 1) := by decide +kernel
theorem dX4_setArrival_66 : decode cX4_setArrival 66 = .ok (.getfield 27, 3) := by decide +kernel
theorem dX4_setArrival_69 : decode cX4_setArrival 69 = .ok (.iload_n 1, 1) := by decide +kernel
theorem dX4_setArrival_70 : decode cX4_setArrival 70 = .ok (.iload_n 2, 1) := by decide +kernel
theorem dX4_setArrival_71 : decode cX4_setArrival 71 = .ok (.iastore, 1) := by decide +kernel
theorem dX4_setArrival_72 : decode cX4_setArrival 72 = .ok (.iload_n 3, 1) := by decide +kernel
theorem dX4_setArrival_73 : decode cX4_setArrival 73 = .ok (.ireturn, 1) := by decide +kernel
theorem dX4_addTown_0 : decode cX4_addTown 0 = .ok (.iload_n 1, 1) := by decide +kernel
theorem dX4_addTown_1 : decode cX4_addTown 1 = .ok (.bipush 10, 2) := by decide +kernel
theorem dX4_addTown_3 : decode cX4_addTown 3 = .ok (.bipush 100, 2) := by decide +kernel
theorem dX4_addTown_5 : decode cX4_addTown 5 = .ok (.invokestatic 69, 3) := by decide +kernel
theorem dX4_addTown_8 : decode cX4_addTown 8 = .ok (.ifCond .ne 38, 3) := by decide +kernel
theorem dX4_addTown_11 : decode cX4_addTown 11 = .ok (.iload_n 2, 1) := by decide +kernel
theorem dX4_addTown_12 : decode cX4_addTown 12 = .ok (.bipush 30, 2) := by decide +kernel
theorem dX4_addTown_14 : decode cX4_addTown 14 = .ok (.sipush 480, 3) := by decide +kernel
theorem dX4_addTown_17 : decode cX4_addTown 17 = .ok (.invokestatic 69, 3) := by decide +kernel
theorem dX4_addTown_20 : decode cX4_addTown 20 = .ok (.ifCond .ne 26, 3) := by decide +kernel
theorem dX4_addTown_23 : decode cX4_addTown 23 = .ok (.iload_n 3, 1) := by decide +kernel
theorem dX4_addTown_24 : decode cX4_addTown 24 = .ok (.iconst 5, 1) := by decide +kernel
theorem dX4_addTown_25 : decode cX4_addTown 25 = .ok (.bipush 120, 2) := by decide +kernel
theorem dX4_addTown_27 : decode cX4_addTown 27 = .ok (.invokestatic 69, 3) := by decide +kernel
theorem dX4_addTown_30 : decode cX4_addTown 30 = .ok (.ifCond .ne 16, 3) := by decide +kernel
theorem dX4_addTown_33 : decode cX4_addTown 33 = .ok (.iload 4, 2) := by decide +kernel
theorem dX4_addTown_35 : decode cX4_addTown 35 = .ok (.bipush 60, 2) := by decide +kernel
theorem dX4_addTown_37 : decode cX4_addTown 37 = .ok (.sipush 1440, 3) := by decide +kernel
theorem dX4_addTown_40 : decode cX4_addTown 40 = .ok (.invokestatic 69, 3) := by decide +kernel
theorem dX4_addTown_43 : decode cX4_addTown 43 = .ok (.ifCond .eq 13, 3) := by decide +kernel
theorem dX4_addTown_46 : decode cX4_addTown 46 = .ok (.new 73, 3) := by decide +kernel
theorem dX4_addTown_49 : decode cX4_addTown 49 = .ok (.dup, 1) := by decide +kernel
theorem dX4_addTown_50 : decode cX4_addTown 50 = .ok (.ldc 170, 2) := by decide +kernel
theorem dX4_addTown_52 : decode cX4_addTown 52 = .ok (.invokespecial 77, 3) := by decide +kernel
theorem dX4_addTown_55 : decode cX4_addTown 55 = .ok (.athrow, 1) := by decide +kernel
theorem dX4_addTown_56 : decode cX4_addTown 56 = .ok (.aload_n 0, 1) := by decide +kernel
theorem dX4_addTown_57 : decode cX4_addTown 57 = .ok (.getfield 51, 3) := by decide +kernel
theorem dX4_addTown_60 : decode cX4_addTown 60 = .ok (.iconst 4, 1) := by decide +kernel
theorem dX4_addTown_61 : decode cX4_addTown 61 = .ok (.if_icmp .lt 13, 3) := by decide +kernel
theorem dX4_addTown_64 : decode cX4_addTown 64 = .ok (.new 80, 3) := by decide +kernel
theorem dX4_addTown_67 : decode cX4_addTown 67 = .ok (.dup, 1) := by decide +kernel
theorem dX4_addTown_68 : decode cX4_addTown 68 = .ok (.ldc 172, 2) := by decide +kernel
theorem dX4_addTown_70 : decode cX4_addTown 70 = .ok (.invokespecial 84, 3) := by decide +kernel
theorem dX4_addTown_73 : decode cX4_addTown 73 = .ok (.athrow, 1) := by decide +kernel
theorem dX4_addTown_74 : decode cX4_addTown 74 = .ok (.aload_n 0, 1) := by decide +kernel
theorem dX4_addTown_75 : decode cX4_addTown 75 = .ok (.getfield 51, 3) := by decide +kernel
theorem dX4_addTown_78 : decode cX4_addTown 78 = .ok (.istore 5, 2) := by decide +kernel
theorem dX4_addTown_80 : decode cX4_addTown 80 = .ok (.aload_n 0, 1) := by decide +kernel
theorem dX4_addTown_81 : decode cX4_addTown 81 = .ok (.getfield 23, 3) := by decide +kernel
theorem dX4_addTown_84 : decode cX4_addTown 84 = .ok (.iload 5, 2) := by decide +kernel
theorem dX4_addTown_86 : decode cX4_addTown 86 = .ok (.aaload, 1) := by decide +kernel
theorem dX4_addTown_87 : decode cX4_addTown 87 = .ok (.astore 6, 2) := by decide +kernel
theorem dX4_addTown_89 : decode cX4_addTown 89 = .ok (.aload 6, 2) := by decide +kernel
theorem dX4_addTown_91 : decode cX4_addTown 91 = .ok (.iload_n 1, 1) := by decide +kernel
theorem dX4_addTown_92 : decode cX4_addTown 92 = .ok (.putfield 174, 3) := by decide +kernel
theorem dX4_addTown_95 : decode cX4_addTown 95 = .ok (.aload 6, 2) := by decide +kernel
theorem dX4_addTown_97 : decode cX4_addTown 97 = .ok (.iload_n 2, 1) := by decide +kernel
theorem dX4_addTown_98 : decode cX4_addTown 98 = .ok (.putfield 177, 3) := by decide +kernel
theorem dX4_addTown_101 : decode cX4_addTown 101 = .ok (.aload 6, 2) := by decide +kernel
theorem dX4_addTown_103 : decode cX4_addTown 103 = .ok (.iload_n 3, 1) := by decide +kernel
theorem dX4_addTown_104 : decode cX4_addTown 104 = .ok (.putfield 180, 3) := by decide +kernel
theorem dX4_addTown_107 : decode cX4_addTown 107 = .ok (.aload 6, 2) := by decide +kernel
theorem dX4_addTown_109 : decode cX4_addTown 109 = .ok (.iload 4, 2) := by decide +kernel
theorem dX4_addTown_111 : decode cX4_addTown 111 = .ok (.putfield 183, 3) := by decide +kernel
theorem dX4_addTown_114 : decode cX4_addTown 114 = .ok (.aload_n 0, 1) := by decide +kernel
theorem dX4_addTown_115 : decode cX4_addTown 115 = .ok (.iload 5, 2) := by decide +kernel
theorem dX4_addTown_117 : decode cX4_addTown 117 = .ok (.iconst 1, 1) := by decide +kernel
theorem dX4_addTown_118 : decode cX4_addTown 118 = .ok (.iadd, 1) := by decide +kernel
theorem dX4_addTown_119 : decode cX4_addTown 119 = .ok (.putfield 51, 3) := by decide +kernel
theorem dX4_addTown_122 : decode cX4_addTown 122 = .ok (.iload 5, 2) := by decide +kernel
theorem dX4_addTown_124 : decode cX4_addTown 124 = .ok (.ireturn, 1) := by decide +kernel
theorem dX4_setRates_0 : decode cX4_setRates 0 = .ok (.aload_n 0, 1) := by decide +kernel
theorem dX4_setRates_1 : decode cX4_setRates 1 = .ok (.iload_n 1, 1) := by decide +kernel
theorem dX4_setRates_2 : decode cX4_setRates 2 = .ok (.invokevirtual 186, 3) := by decide +kernel
theorem dX4_setRates_5 : decode cX4_setRates 5 = .ok (.iload_n 2, 1) := by decide +kernel
theorem dX4_setRates_6 : decode cX4_setRates 6 = .ok (.iconst 0, 1) := by decide +kernel
theorem dX4_setRates_7 : decode cX4_setRates 7 = .ok (.bipush 99, 2) := by decide +kernel
theorem dX4_setRates_9 : decode cX4_setRates 9 = .ok (.invokestatic 69, 3) := by decide +kernel
theorem dX4_setRates_12 : decode cX4_setRates 12 = .ok (.ifCond .ne 25, 3) := by decide +kernel
theorem dX4_setRates_15 : decode cX4_setRates 15 = .ok (.iload_n 3, 1) := by decide +kernel
theorem dX4_setRates_16 : decode cX4_setRates 16 = .ok (.iconst 0, 1) := by decide +kernel
theorem dX4_setRates_17 : decode cX4_setRates 17 = .ok (.sipush 1440, 3) := by decide +kernel
theorem dX4_setRates_20 : decode cX4_setRates 20 = .ok (.invokestatic 69, 3) := by decide +kernel
theorem dX4_setRates_23 : decode cX4_setRates 23 = .ok (.ifCond .ne 14, 3) := by decide +kernel
theorem dX4_setRates_26 : decode cX4_setRates 26 = .ok (.iload 4, 2) := by decide +kernel
theorem dX4_setRates_28 : decode cX4_setRates 28 = .ok (.iconst 0, 1) := by decide +kernel
theorem dX4_setRates_29 : decode cX4_setRates 29 = .ok (.bipush 99, 2) := by decide +kernel
theorem dX4_setRates_31 : decode cX4_setRates 31 = .ok (.invokestatic 69, 3) := by decide +kernel
theorem dX4_setRates_34 : decode cX4_setRates 34 = .ok (.ifCond .eq 13, 3) := by decide +kernel
theorem dX4_setRates_37 : decode cX4_setRates 37 = .ok (.new 73, 3) := by decide +kernel
theorem dX4_setRates_40 : decode cX4_setRates 40 = .ok (.dup, 1) := by decide +kernel
theorem dX4_setRates_41 : decode cX4_setRates 41 = .ok (.ldc 189, 2) := by decide +kernel
theorem dX4_setRates_43 : decode cX4_setRates 43 = .ok (.invokespecial 77, 3) := by decide +kernel
theorem dX4_setRates_46 : decode cX4_setRates 46 = .ok (.athrow, 1) := by decide +kernel
theorem dX4_setRates_47 : decode cX4_setRates 47 = .ok (.aload_n 0, 1) := by decide +kernel
theorem dX4_setRates_48 : decode cX4_setRates 48 = .ok (.getfield 23, 3) := by decide +kernel
theorem dX4_setRates_51 : decode cX4_setRates 51 = .ok (.iload_n 1, 1) := by decide +kernel
theorem dX4_setRates_52 : decode cX4_setRates 52 = .ok (.aaload, 1) := by decide +kernel
theorem dX4_setRates_53 : decode cX4_setRates 53 = .ok (.astore 5, 2) := by decide +kernel
theorem dX4_setRates_55 : decode cX4_setRates 55 = .ok (.aload 5, 2) := by decide +kernel
theorem dX4_setRates_57 : decode cX4_setRates 57 = .ok (.getfield 191, 3) := by decide +kernel
theorem dX4_setRates_60 : decode cX4_setRates 60 = .ok (.istore 6, 2) := by decide +kernel
theorem dX4_setRates_62 : decode cX4_setRates 62 = .ok (.aload 5, 2) := by decide +kernel
theorem dX4_setRates_64 : decode cX4_setRates 64 = .ok (.iload_n 2, 1) := by decide +kernel
theorem dX4_setRates_65 : decode cX4_setRates 65 = .ok (.putfield 191, 3) := by decide +kernel
theorem dX4_setRates_68 : decode cX4_setRates 68 = .ok (.aload 5, 2) := by decide +kernel
theorem dX4_setRates_70 : decode cX4_setRates 70 = .ok (.iload_n 3, 1) := by decide +kernel
theorem dX4_setRates_71 : decode cX4_setRates 71 = .ok (.putfield 194, 3) := by decide +kernel
theorem dX4_setRates_74 : decode cX4_setRates 74 = .ok (.aload 5, 2) := by decide +kernel
theorem dX4_setRates_76 : decode cX4_setRates 76 = .ok (.iload 4, 2) := by decide +kernel
theorem dX4_setRates_78 : decode cX4_setRates 78 = .ok (.putfield 197, 3) := by decide +kernel
theorem dX4_setRates_81 : decode cX4_setRates 81 = .ok (.iload 6, 2) := by decide +kernel
theorem dX4_setRates_83 : decode cX4_setRates 83 = .ok (.ireturn, 1) := by decide +kernel
theorem dX4_come_0 : decode cX4_come 0 = .ok (.aload_n 0, 1) := by decide +kernel
theorem dX4_come_1 : decode cX4_come 1 = .ok (.iload_n 1, 1) := by decide +kernel
theorem dX4_come_2 : decode cX4_come 2 = .ok (.invokevirtual 186, 3) := by decide +kernel
theorem dX4_come_5 : decode cX4_come 5 = .ok (.aload_n 0, 1) := by decide +kernel
theorem dX4_come_6 : decode cX4_come 6 = .ok (.getfield 34, 3) := by decide +kernel
theorem dX4_come_9 : decode cX4_come 9 = .ok (.getfield 200, 3) := by decide +kernel
theorem dX4_come_12 : decode cX4_come 12 = .ok (.istore_n 2, 1) := by decide +kernel
theorem dX4_come_13 : decode cX4_come 13 = .ok (.aload_n 0, 1) := by decide +kernel
theorem dX4_come_14 : decode cX4_come 14 = .ok (.getfield 34, 3) := by decide +kernel
theorem dX4_come_17 : decode cX4_come 17 = .ok (.invokevirtual 203, 3) := by decide +kernel
theorem dX4_come_20 : decode cX4_come 20 = .ok (.aload_n 0, 1) := by decide +kernel
theorem dX4_come_21 : decode cX4_come 21 = .ok (.aload_n 0, 1) := by decide +kernel
theorem dX4_come_22 : decode cX4_come 22 = .ok (.getfield 23, 3) := by decide +kernel
theorem dX4_come_25 : decode cX4_come 25 = .ok (.iload_n 1, 1) := by decide +kernel
theorem dX4_come_26 : decode cX4_come 26 = .ok (.aaload, 1) := by decide +kernel
theorem dX4_come_27 : decode cX4_come 27 = .ok (.putfield 54, 3) := by decide +kernel
theorem dX4_come_30 : decode cX4_come 30 = .ok (.iload_n 2, 1) := by decide +kernel
theorem dX4_come_31 : decode cX4_come 31 = .ok (.ireturn, 1) := by decide +kernel
theorem dX4_town_0 : decode cX4_town 0 = .ok (.aload_n 0, 1) := by decide +kernel
theorem dX4_town_1 : decode cX4_town 1 = .ok (.getfield 54, 3) := by decide +kernel
theorem dX4_town_4 : decode cX4_town 4 = .ok (.astore_n 1, 1) := by decide +kernel
theorem dX4_town_5 : decode cX4_town 5 = .ok (.aload_n 1, 1) := by decide +kernel
theorem dX4_town_6 : decode cX4_town 6 = .ok (.ifnonnull 13, 3) := by decide +kernel
theorem dX4_town_9 : decode cX4_town 9 = .ok (.new 206, 3) := by decide +kernel
theorem dX4_town_12 : decode cX4_town 12 = .ok (.dup, 1) := by decide +kernel
theorem dX4_town_13 : decode cX4_town 13 = .ok (.ldc 208, 2) := by decide +kernel
theorem dX4_town_15 : decode cX4_town 15 = .ok (.invokespecial 210, 3) := by decide +kernel
theorem dX4_town_18 : decode cX4_town 18 = .ok (.athrow, 1) := by decide +kernel
theorem dX4_town_19 : decode cX4_town 19 = .ok (.aload_n 1, 1) := by decide +kernel
theorem dX4_town_20 : decode cX4_town 20 = .ok (.getfield 211, 3) := by decide +kernel
theorem dX4_town_23 : decode cX4_town 23 = .ok (.ireturn, 1) := by decide +kernel
theorem dX4_loadOn_0 : decode cX4_loadOn 0 = .ok (.aload_n 0, 1) := by decide +kernel
theorem dX4_loadOn_1 : decode cX4_loadOn 1 = .ok (.iload_n 1, 1) := by decide +kernel
theorem dX4_loadOn_2 : decode cX4_loadOn 2 = .ok (.invokevirtual 107, 3) := by decide +kernel
theorem dX4_loadOn_5 : decode cX4_loadOn 5 = .ok (.aload_n 0, 1) := by decide +kernel
theorem dX4_loadOn_6 : decode cX4_loadOn 6 = .ok (.iload_n 2, 1) := by decide +kernel
theorem dX4_loadOn_7 : decode cX4_loadOn 7 = .ok (.invokevirtual 110, 3) := by decide +kernel
theorem dX4_loadOn_10 : decode cX4_loadOn 10 = .ok (.aload_n 0, 1) := by decide +kernel
theorem dX4_loadOn_11 : decode cX4_loadOn 11 = .ok (.getfield 17, 3) := by decide +kernel
theorem dX4_loadOn_14 : decode cX4_loadOn 14 = .ok (.iload_n 1, 1) := by decide +kernel
theorem dX4_loadOn_15 : decode cX4_loadOn 15 = .ok (.aaload, 1) := by decide +kernel
theorem dX4_loadOn_16 : decode cX4_loadOn 16 = .ok (.iload_n 2, 1) := by decide +kernel
theorem dX4_loadOn_17 : decode cX4_loadOn 17 = .ok (.invokevirtual 214, 3) := by decide +kernel
theorem dX4_loadOn_20 : decode cX4_loadOn 20 = .ok (.ireturn, 1) := by decide +kernel
theorem dX4_mayBear_0 : decode cX4_mayBear 0 = .ok (.aload_n 0, 1) := by decide +kernel
theorem dX4_mayBear_1 : decode cX4_mayBear 1 = .ok (.iload_n 1, 1) := by decide +kernel
theorem dX4_mayBear_2 : decode cX4_mayBear 2 = .ok (.invokevirtual 110, 3) := by decide +kernel
theorem dX4_mayBear_5 : decode cX4_mayBear 5 = .ok (.aload_n 0, 1) := by decide +kernel
theorem dX4_mayBear_6 : decode cX4_mayBear 6 = .ok (.getfield 54, 3) := by decide +kernel
theorem dX4_mayBear_9 : decode cX4_mayBear 9 = .ok (.astore_n 2, 1) := by decide +kernel
theorem dX4_mayBear_10 : decode cX4_mayBear 10 = .ok (.aload_n 2, 1) := by decide +kernel
theorem dX4_mayBear_11 : decode cX4_mayBear 11 = .ok (.ifnonnull 13, 3) := by decide +kernel
theorem dX4_mayBear_14 : decode cX4_mayBear 14 = .ok (.new 80, 3) := by decide +kernel
theorem dX4_mayBear_17 : decode cX4_mayBear 17 = .ok (.dup, 1) := by decide +kernel
theorem dX4_mayBear_18 : decode cX4_mayBear 18 = .ok (.ldc 208, 2) := by decide +kernel
theorem dX4_mayBear_20 : decode cX4_mayBear 20 = .ok (.invokespecial 84, 3) := by decide +kernel
theorem dX4_mayBear_23 : decode cX4_mayBear 23 = .ok (.athrow, 1) := by decide +kernel
theorem dX4_mayBear_24 : decode cX4_mayBear 24 = .ok (.aload_n 2, 1) := by decide +kernel
theorem dX4_mayBear_25 : decode cX4_mayBear 25 = .ok (.aload_n 0, 1) := by decide +kernel
theorem dX4_mayBear_26 : decode cX4_mayBear 26 = .ok (.getfield 11, 3) := by decide +kernel
theorem dX4_mayBear_29 : decode cX4_mayBear 29 = .ok (.iload_n 1, 1) := by decide +kernel
theorem dX4_mayBear_30 : decode cX4_mayBear 30 = .ok (.aaload, 1) := by decide +kernel
theorem dX4_mayBear_31 : decode cX4_mayBear 31 = .ok (.invokevirtual 217, 3) := by decide +kernel
theorem dX4_mayBear_34 : decode cX4_mayBear 34 = .ok (.ireturn, 1) := by decide +kernel
theorem dX4_bears_0 : decode cX4_bears 0 = .ok (.aload_n 0, 1) := by decide +kernel
theorem dX4_bears_1 : decode cX4_bears 1 = .ok (.iload_n 1, 1) := by decide +kernel
theorem dX4_bears_2 : decode cX4_bears 2 = .ok (.invokevirtual 110, 3) := by decide +kernel
theorem dX4_bears_5 : decode cX4_bears 5 = .ok (.aload_n 0, 1) := by decide +kernel
theorem dX4_bears_6 : decode cX4_bears 6 = .ok (.getfield 34, 3) := by decide +kernel
theorem dX4_bears_9 : decode cX4_bears 9 = .ok (.getfield 221, 3) := by decide +kernel
theorem dX4_bears_12 : decode cX4_bears 12 = .ok (.iload_n 1, 1) := by decide +kernel
theorem dX4_bears_13 : decode cX4_bears 13 = .ok (.iaload, 1) := by decide +kernel
theorem dX4_bears_14 : decode cX4_bears 14 = .ok (.ireturn, 1) := by decide +kernel
theorem dX4_reason_0 : decode cX4_reason 0 = .ok (.aload_n 0, 1) := by decide +kernel
theorem dX4_reason_1 : decode cX4_reason 1 = .ok (.iload_n 1, 1) := by decide +kernel
theorem dX4_reason_2 : decode cX4_reason 2 = .ok (.invokevirtual 107, 3) := by decide +kernel
theorem dX4_reason_5 : decode cX4_reason 5 = .ok (.aload_n 0, 1) := by decide +kernel
theorem dX4_reason_6 : decode cX4_reason 6 = .ok (.aload_n 0, 1) := by decide +kernel
theorem dX4_reason_7 : decode cX4_reason 7 = .ok (.getfield 34, 3) := by decide +kernel
theorem dX4_reason_10 : decode cX4_reason 10 = .ok (.iload_n 1, 1) := by decide +kernel
theorem dX4_reason_11 : decode cX4_reason 11 = .ok (.invokevirtual 224, 3) := by decide +kernel
theorem dX4_reason_14 : decode cX4_reason 14 = .ok (.ireturn, 1) := by decide +kernel
theorem dX4_hang_0 : decode cX4_hang 0 = .ok (.aload_n 0, 1) := by decide +kernel
theorem dX4_hang_1 : decode cX4_hang 1 = .ok (.iload_n 1, 1) := by decide +kernel
theorem dX4_hang_2 : decode cX4_hang 2 = .ok (.invokevirtual 107, 3) := by decide +kernel
theorem dX4_hang_5 : decode cX4_hang 5 = .ok (.aload_n 0, 1) := by decide +kernel
theorem dX4_hang_6 : decode cX4_hang 6 = .ok (.getfield 54, 3) := by decide +kernel
theorem dX4_hang_9 : decode cX4_hang 9 = .ok (.astore_n 2, 1) := by decide +kernel
theorem dX4_hang_10 : decode cX4_hang 10 = .ok (.aload_n 2, 1) := by decide +kernel
theorem dX4_hang_11 : decode cX4_hang 11 = .ok (.ifnull 17, 3) := by decide +kernel
theorem dX4_hang_14 : decode cX4_hang 14 = .ok (.aload_n 0, 1) := by decide +kernel
theorem dX4_hang_15 : decode cX4_hang 15 = .ok (.aload_n 0, 1) := by decide +kernel
theorem dX4_hang_16 : decode cX4_hang 16 = .ok (.getfield 34, 3) := by decide +kernel
theorem dX4_hang_19 : decode cX4_hang 19 = .ok (.iload_n 1, 1) := by decide +kernel
theorem dX4_hang_20 : decode cX4_hang 20 = .ok (.invokevirtual 224, 3) := by decide +kernel
theorem dX4_hang_23 : decode cX4_hang 23 = .ok (.bipush 45, 2) := by decide +kernel
theorem dX4_hang_25 : decode cX4_hang 25 = .ok (.if_icmp .eq 13, 3) := by decide +kernel
theorem dX4_hang_28 : decode cX4_hang 28 = .ok (.new 80, 3) := by decide +kernel
theorem dX4_hang_31 : decode cX4_hang 31 = .ok (.dup, 1) := by decide +kernel
theorem dX4_hang_32 : decode cX4_hang 32 = .ok (.ldc 228, 2) := by decide +kernel
theorem dX4_hang_34 : decode cX4_hang 34 = .ok (.invokespecial 84, 3) := by decide +kernel
theorem dX4_hang_37 : decode cX4_hang 37 = .ok (.athrow, 1) := by decide +kernel
theorem dX4_hang_38 : decode cX4_hang 38 = .ok (.aload_n 0, 1) := by decide +kernel
theorem dX4_hang_39 : decode cX4_hang 39 = .ok (.aload_n 0, 1) := by decide +kernel
theorem dX4_hang_40 : decode cX4_hang 40 = .ok (.getfield 34, 3) := by decide +kernel
theorem dX4_hang_43 : decode cX4_hang 43 = .ok (.iload_n 1, 1) := by decide +kernel
theorem dX4_hang_44 : decode cX4_hang 44 = .ok (.aload_n 2, 1) := by decide +kernel
theorem dX4_hang_45 : decode cX4_hang 45 = .ok (.invokevirtual 230, 3) := by decide +kernel
theorem dX4_hang_48 : decode cX4_hang 48 = .ok (.aload_n 0, 1) := by decide +kernel
theorem dX4_hang_49 : decode cX4_hang 49 = .ok (.getfield 34, 3) := by decide +kernel
theorem dX4_hang_52 : decode cX4_hang 52 = .ok (.invokevirtual 234, 3) := by decide +kernel
theorem dX4_hang_55 : decode cX4_hang 55 = .ok (.ireturn, 1) := by decide +kernel
theorem dX4_takeDown_0 : decode cX4_takeDown 0 = .ok (.aload_n 0, 1) := by decide +kernel
theorem dX4_takeDown_1 : decode cX4_takeDown 1 = .ok (.getfield 34, 3) := by decide +kernel
theorem dX4_takeDown_4 : decode cX4_takeDown 4 = .ok (.getfield 200, 3) := by decide +kernel
theorem dX4_takeDown_7 : decode cX4_takeDown 7 = .ok (.ifCond .gt 13, 3) := by decide +kernel
theorem dX4_takeDown_10 : decode cX4_takeDown 10 = .ok (.new 80, 3) := by decide +kernel
theorem dX4_takeDown_13 : decode cX4_takeDown 13 = .ok (.dup, 1) := by decide +kernel
theorem dX4_takeDown_14 : decode cX4_takeDown 14 = .ok (.ldc 238, 2) := by decide +kernel
theorem dX4_takeDown_16 : decode cX4_takeDown 16 = .ok (.invokespecial 84, 3) := by decide +kernel
theorem dX4_takeDown_19 : decode cX4_takeDown 19 = .ok (.athrow, 1) := by decide +kernel
theorem dX4_takeDown_20 : decode cX4_takeDown 20 = .ok (.aload_n 0, 1) := by decide +kernel
theorem dX4_takeDown_21 : decode cX4_takeDown 21 = .ok (.getfield 34, 3) := by decide +kernel
theorem dX4_takeDown_24 : decode cX4_takeDown 24 = .ok (.getfield 240, 3) := by decide +kernel
theorem dX4_takeDown_27 : decode cX4_takeDown 27 = .ok (.aload_n 0, 1) := by decide +kernel
theorem dX4_takeDown_28 : decode cX4_takeDown 28 = .ok (.getfield 34, 3) := by decide +kernel
theorem dX4_takeDown_31 : decode cX4_takeDown 31 = .ok (.getfield 200, 3) := by decide +kernel
theorem dX4_takeDown_34 : decode cX4_takeDown 34 = .ok (.iconst 1, 1) := by decide +kernel
theorem dX4_takeDown_35 : decode cX4_takeDown 35 = .ok (.isub, 1) := by decide +kernel
theorem dX4_takeDown_36 : decode cX4_takeDown 36 = .ok (.iaload, 1) := by decide +kernel
theorem dX4_takeDown_37 : decode cX4_takeDown 37 = .ok (.istore_n 1, 1) := by decide +kernel
theorem dX4_takeDown_38 : decode cX4_takeDown 38 = .ok (.aload_n 0, 1) := by decide +kernel
theorem dX4_takeDown_39 : decode cX4_takeDown 39 = .ok (.aload_n 0, 1) := by decide +kernel
theorem dX4_takeDown_40 : decode cX4_takeDown 40 = .ok (.getfield 34, 3) := by decide +kernel
theorem dX4_takeDown_43 : decode cX4_takeDown 43 = .ok (.invokevirtual 243, 3) := by decide +kernel
theorem dX4_takeDown_46 : decode cX4_takeDown 46 = .ok (.iload_n 1, 1) := by decide +kernel
theorem dX4_takeDown_47 : decode cX4_takeDown 47 = .ok (.ireturn, 1) := by decide +kernel
theorem dX4_hung_0 : decode cX4_hung 0 = .ok (.aload_n 0, 1) := by decide +kernel
theorem dX4_hung_1 : decode cX4_hung 1 = .ok (.getfield 34, 3) := by decide +kernel
theorem dX4_hung_4 : decode cX4_hung 4 = .ok (.getfield 200, 3) := by decide +kernel
theorem dX4_hung_7 : decode cX4_hung 7 = .ok (.ireturn, 1) := by decide +kernel
theorem dX4_hungAt_0 : decode cX4_hungAt 0 = .ok (.aload_n 0, 1) := by decide +kernel
theorem dX4_hungAt_1 : decode cX4_hungAt 1 = .ok (.getfield 34, 3) := by decide +kernel
theorem dX4_hungAt_4 : decode cX4_hungAt 4 = .ok (.iload_n 1, 1) := by decide +kernel
theorem dX4_hungAt_5 : decode cX4_hungAt 5 = .ok (.invokestatic 247, 3) := by decide +kernel
theorem dX4_hungAt_8 : decode cX4_hungAt 8 = .ok (.ireturn, 1) := by decide +kernel
theorem dX4_beginOf_0 : decode cX4_beginOf 0 = .ok (.aload_n 0, 1) := by decide +kernel
theorem dX4_beginOf_1 : decode cX4_beginOf 1 = .ok (.getfield 34, 3) := by decide +kernel
theorem dX4_beginOf_4 : decode cX4_beginOf 4 = .ok (.iload_n 1, 1) := by decide +kernel
theorem dX4_beginOf_5 : decode cX4_beginOf 5 = .ok (.invokevirtual 251, 3) := by decide +kernel
theorem dX4_beginOf_8 : decode cX4_beginOf 8 = .ok (.istore_n 2, 1) := by decide +kernel
theorem dX4_beginOf_9 : decode cX4_beginOf 9 = .ok (.iload_n 2, 1) := by decide +kernel
theorem dX4_beginOf_10 : decode cX4_beginOf 10 = .ok (.ifCond .ge 13, 3) := by decide +kernel
theorem dX4_beginOf_13 : decode cX4_beginOf 13 = .ok (.new 206, 3) := by decide +kernel
theorem dX4_beginOf_16 : decode cX4_beginOf 16 = .ok (.dup, 1) := by decide +kernel
theorem dX4_beginOf_17 : decode cX4_beginOf 17 = .ok (.ldc 254, 2) := by decide +kernel
theorem dX4_beginOf_19 : decode cX4_beginOf 19 = .ok (.invokespecial 210, 3) := by decide +kernel
theorem dX4_beginOf_22 : decode cX4_beginOf 22 = .ok (.athrow, 1) := by decide +kernel
theorem dX4_beginOf_23 : decode cX4_beginOf 23 = .ok (.aload_n 0, 1) := by decide +kernel
theorem dX4_beginOf_24 : decode cX4_beginOf 24 = .ok (.getfield 34, 3) := by decide +kernel
theorem dX4_beginOf_27 : decode cX4_beginOf 27 = .ok (.getfield 256, 3) := by decide +kernel
theorem dX4_beginOf_30 : decode cX4_beginOf 30 = .ok (.iload_n 2, 1) := by decide +kernel
theorem dX4_beginOf_31 : decode cX4_beginOf 31 = .ok (.iaload, 1) := by decide +kernel
theorem dX4_beginOf_32 : decode cX4_beginOf 32 = .ok (.ireturn, 1) := by decide +kernel
theorem dX4_end_0 : decode cX4_end 0 = .ok (.aload_n 0, 1) := by decide +kernel
theorem dX4_end_1 : decode cX4_end 1 = .ok (.getfield 34, 3) := by decide +kernel
theorem dX4_end_4 : decode cX4_end 4 = .ok (.invokevirtual 234, 3) := by decide +kernel
theorem dX4_end_7 : decode cX4_end 7 = .ok (.ireturn, 1) := by decide +kernel
theorem dX4_work_0 : decode cX4_work 0 = .ok (.aload_n 0, 1) := by decide +kernel
theorem dX4_work_1 : decode cX4_work 1 = .ok (.getfield 34, 3) := by decide +kernel
theorem dX4_work_4 : decode cX4_work 4 = .ok (.invokevirtual 259, 3) := by decide +kernel
theorem dX4_work_7 : decode cX4_work 7 = .ok (.ireturn, 1) := by decide +kernel
theorem dX4_cost_0 : decode cX4_cost 0 = .ok (.aload_n 0, 1) := by decide +kernel
theorem dX4_cost_1 : decode cX4_cost 1 = .ok (.aload_n 0, 1) := by decide +kernel
theorem dX4_cost_2 : decode cX4_cost 2 = .ok (.getfield 34, 3) := by decide +kernel
theorem dX4_cost_5 : decode cX4_cost 5 = .ok (.invokevirtual 262, 3) := by decide +kernel
theorem dX4_cost_8 : decode cX4_cost 8 = .ok (.i2l, 1) := by decide +kernel
theorem dX4_cost_9 : decode cX4_cost 9 = .ok (.lreturn, 1) := by decide +kernel
theorem dX4_costByMinutes_0 : decode cX4_costByMinutes 0 = .ok (.aload_n 0, 1) := by decide +kernel
theorem dX4_costByMinutes_1 : decode cX4_costByMinutes 1 = .ok (.invokevirtual 266, 3) := by decide +kernel
theorem dX4_costByMinutes_4 : decode cX4_costByMinutes 4 = .ok (.lreturn, 1) := by decide +kernel
theorem dX4_bestWorth_0 : decode cX4_bestWorth 0 = .ok (.aload_n 0, 1) := by decide +kernel
theorem dX4_bestWorth_1 : decode cX4_bestWorth 1 = .ok (.invokevirtual 270, 3) := by decide +kernel
theorem dX4_bestWorth_4 : decode cX4_bestWorth 4 = .ok (.aload_n 0, 1) := by decide +kernel
theorem dX4_bestWorth_5 : decode cX4_bestWorth 5 = .ok (.getfield 41, 3) := by decide +kernel
theorem dX4_bestWorth_8 : decode cX4_bestWorth 8 = .ok (.getfield 273, 3) := by decide +kernel
theorem dX4_bestWorth_11 : decode cX4_bestWorth 11 = .ok (.ireturn, 1) := by decide +kernel
theorem dX4_bestByAll_0 : decode cX4_bestByAll 0 = .ok (.aload_n 0, 1) := by decide +kernel
theorem dX4_bestByAll_1 : decode cX4_bestByAll 1 = .ok (.invokevirtual 274, 3) := by decide +kernel
theorem dX4_bestByAll_4 : decode cX4_bestByAll 4 = .ok (.aload_n 0, 1) := by decide +kernel
theorem dX4_bestByAll_5 : decode cX4_bestByAll 5 = .ok (.getfield 61, 3) := by decide +kernel
theorem dX4_bestByAll_8 : decode cX4_bestByAll 8 = .ok (.ireturn, 1) := by decide +kernel
theorem dX4_bestEnd_0 : decode cX4_bestEnd 0 = .ok (.aload_n 0, 1) := by decide +kernel
theorem dX4_bestEnd_1 : decode cX4_bestEnd 1 = .ok (.invokevirtual 270, 3) := by decide +kernel
theorem dX4_bestEnd_4 : decode cX4_bestEnd 4 = .ok (.aload_n 0, 1) := by decide +kernel
theorem dX4_bestEnd_5 : decode cX4_bestEnd 5 = .ok (.getfield 41, 3) := by decide +kernel
theorem dX4_bestEnd_8 : decode cX4_bestEnd 8 = .ok (.invokevirtual 234, 3) := by decide +kernel
theorem dX4_bestEnd_11 : decode cX4_bestEnd 11 = .ok (.ireturn, 1) := by decide +kernel
theorem dX4_bestCost_0 : decode cX4_bestCost 0 = .ok (.aload_n 0, 1) := by decide +kernel
theorem dX4_bestCost_1 : decode cX4_bestCost 1 = .ok (.invokevirtual 270, 3) := by decide +kernel
theorem dX4_bestCost_4 : decode cX4_bestCost 4 = .ok (.aload_n 0, 1) := by decide +kernel
theorem dX4_bestCost_5 : decode cX4_bestCost 5 = .ok (.aload_n 0, 1) := by decide +kernel
theorem dX4_bestCost_6 : decode cX4_bestCost 6 = .ok (.getfield 41, 3) := by decide +kernel
theorem dX4_bestCost_9 : decode cX4_bestCost 9 = .ok (.invokevirtual 262, 3) := by decide +kernel
theorem dX4_bestCost_12 : decode cX4_bestCost 12 = .ok (.ireturn, 1) := by decide +kernel
theorem dX4_bestSize_0 : decode cX4_bestSize 0 = .ok (.aload_n 0, 1) := by decide +kernel
theorem dX4_bestSize_1 : decode cX4_bestSize 1 = .ok (.invokevirtual 270, 3) := by decide +kernel
theorem dX4_bestSize_4 : decode cX4_bestSize 4 = .ok (.aload_n 0, 1) := by decide +kernel
theorem dX4_bestSize_5 : decode cX4_bestSize 5 = .ok (.getfield 41, 3) := by decide +kernel
theorem dX4_bestSize_8 : decode cX4_bestSize 8 = .ok (.getfield 200, 3) := by decide +kernel
theorem dX4_bestSize_11 : decode cX4_bestSize 11 = .ok (.ireturn, 1) := by decide +kernel
theorem dX4_bestAt_0 : decode cX4_bestAt 0 = .ok (.aload_n 0, 1) := by decide +kernel
theorem dX4_bestAt_1 : decode cX4_bestAt 1 = .ok (.invokevirtual 270, 3) := by decide +kernel
theorem dX4_bestAt_4 : decode cX4_bestAt 4 = .ok (.aload_n 0, 1) := by decide +kernel
theorem dX4_bestAt_5 : decode cX4_bestAt 5 = .ok (.getfield 41, 3) := by decide +kernel
theorem dX4_bestAt_8 : decode cX4_bestAt 8 = .ok (.iload_n 1, 1) := by decide +kernel
theorem dX4_bestAt_9 : decode cX4_bestAt 9 = .ok (.invokestatic 247, 3) := by decide +kernel
theorem dX4_bestAt_12 : decode cX4_bestAt 12 = .ok (.ireturn, 1) := by decide +kernel
theorem dX4_complete_0 : decode cX4_complete 0 = .ok (.aload_n 0, 1) := by decide +kernel
theorem dX4_complete_1 : decode cX4_complete 1 = .ok (.invokevirtual 270, 3) := by decide +kernel
theorem dX4_complete_4 : decode cX4_complete 4 = .ok (.aload_n 0, 1) := by decide +kernel
theorem dX4_complete_5 : decode cX4_complete 5 = .ok (.getfield 41, 3) := by decide +kernel
theorem dX4_complete_8 : decode cX4_complete 8 = .ok (.getfield 200, 3) := by decide +kernel
theorem dX4_complete_11 : decode cX4_complete 11 = .ok (.aload_n 0, 1) := by decide +kernel
theorem dX4_complete_12 : decode cX4_complete 12 = .ok (.getfield 34, 3) := by decide +kernel
theorem dX4_complete_15 : decode cX4_complete 15 = .ok (.getfield 200, 3) := by decide +kernel
theorem dX4_complete_18 : decode cX4_complete 18 = .ok (.isub, 1) := by decide +kernel
theorem dX4_complete_19 : decode cX4_complete 19 = .ok (.istore_n 1, 1) := by decide +kernel
theorem dX4_complete_20 : decode cX4_complete 20 = .ok (.aload_n 0, 1) := by decide +kernel
theorem dX4_complete_21 : decode cX4_complete 21 = .ok (.getfield 34, 3) := by decide +kernel
theorem dX4_complete_24 : decode cX4_complete 24 = .ok (.aload_n 0, 1) := by decide +kernel
theorem dX4_complete_25 : decode cX4_complete 25 = .ok (.getfield 41, 3) := by decide +kernel
theorem dX4_complete_28 : decode cX4_complete 28 = .ok (.invokevirtual 277, 3) := by decide +kernel
theorem dX4_complete_31 : decode cX4_complete 31 = .ok (.iload_n 1, 1) := by decide +kernel
theorem dX4_complete_32 : decode cX4_complete 32 = .ok (.ireturn, 1) := by decide +kernel
theorem dX4_completions_0 : decode cX4_completions 0 = .ok (.aload_n 0, 1) := by decide +kernel
theorem dX4_completions_1 : decode cX4_completions 1 = .ok (.invokevirtual 274, 3) := by decide +kernel
theorem dX4_completions_4 : decode cX4_completions 4 = .ok (.aload_n 0, 1) := by decide +kernel
theorem dX4_completions_5 : decode cX4_completions 5 = .ok (.getfield 58, 3) := by decide +kernel
theorem dX4_completions_8 : decode cX4_completions 8 = .ok (.ireturn, 1) := by decide +kernel
theorem dX4_tightest_0 : decode cX4_tightest 0 = .ok (.aload_n 0, 1) := by decide +kernel
theorem dX4_tightest_1 : decode cX4_tightest 1 = .ok (.getfield 54, 3) := by decide +kernel
theorem dX4_tightest_4 : decode cX4_tightest 4 = .ok (.astore_n 1, 1) := by decide +kernel
theorem dX4_tightest_5 : decode cX4_tightest 5 = .ok (.aload_n 1, 1) := by decide +kernel
theorem dX4_tightest_6 : decode cX4_tightest 6 = .ok (.ifnonnull 13, 3) := by decide +kernel
theorem dX4_tightest_9 : decode cX4_tightest 9 = .ok (.new 80, 3) := by decide +kernel
theorem dX4_tightest_12 : decode cX4_tightest 12 = .ok (.dup, 1) := by decide +kernel
theorem dX4_tightest_13 : decode cX4_tightest 13 = .ok (.ldc 208, 2) := by decide +kernel
theorem dX4_tightest_15 : decode cX4_tightest 15 = .ok (.invokespecial 84, 3) := by decide +kernel
theorem dX4_tightest_18 : decode cX4_tightest 18 = .ok (.athrow, 1) := by decide +kernel
theorem dX4_tightest_19 : decode cX4_tightest 19 = .ok (.aload_n 0, 1) := by decide +kernel
theorem dX4_tightest_20 : decode cX4_tightest 20 = .ok (.getfield 44, 3) := by decide +kernel
theorem dX4_tightest_23 : decode cX4_tightest 23 = .ok (.ifCond .ne 14, 3) := by decide +kernel
theorem dX4_tightest_26 : decode cX4_tightest 26 = .ok (.new 206, 3) := by decide +kernel
theorem dX4_tightest_29 : decode cX4_tightest 29 = .ok (.dup, 1) := by decide +kernel
theorem dX4_tightest_30 : decode cX4_tightest 30 = .ok (.ldc_w 280, 3) := by decide +kernel
theorem dX4_tightest_33 : decode cX4_tightest 33 = .ok (.invokespecial 210, 3) := by decide +kernel
theorem dX4_tightest_36 : decode cX4_tightest 36 = .ok (.athrow, 1) := by decide +kernel
theorem dX4_tightest_37 : decode cX4_tightest 37 = .ok (.iconst 0, 1) := by decide +kernel
theorem dX4_tightest_38 : decode cX4_tightest 38 = .ok (.istore_n 2, 1) := by decide +kernel
theorem dX4_tightest_39 : decode cX4_tightest 39 = .ok (.iconst 1, 1) := by decide +kernel
theorem dX4_tightest_40 : decode cX4_tightest 40 = .ok (.istore_n 3, 1) := by decide +kernel
theorem dX4_tightest_41 : decode cX4_tightest 41 = .ok (.iload_n 3, 1) := by decide +kernel
theorem dX4_tightest_42 : decode cX4_tightest 42 = .ok (.aload_n 0, 1) := by decide +kernel
theorem dX4_tightest_43 : decode cX4_tightest 43 = .ok (.getfield 44, 3) := by decide +kernel
theorem dX4_tightest_46 : decode cX4_tightest 46 = .ok (.if_icmp .ge 26, 3) := by decide +kernel
theorem dX4_tightest_49 : decode cX4_tightest 49 = .ok (.aload_n 0, 1) := by decide +kernel
theorem dX4_tightest_50 : decode cX4_tightest 50 = .ok (.iload_n 3, 1) := by decide +kernel
theorem dX4_tightest_51 : decode cX4_tightest 51 = .ok (.aload_n 1, 1) := by decide +kernel
theorem dX4_tightest_52 : decode cX4_tightest 52 = .ok (.invokevirtual 282, 3) := by decide +kernel
theorem dX4_tightest_55 : decode cX4_tightest 55 = .ok (.aload_n 0, 1) := by decide +kernel
theorem dX4_tightest_56 : decode cX4_tightest 56 = .ok (.iload_n 2, 1) := by decide +kernel
theorem dX4_tightest_57 : decode cX4_tightest 57 = .ok (.aload_n 1, 1) := by decide +kernel
theorem dX4_tightest_58 : decode cX4_tightest 58 = .ok (.invokevirtual 282, 3) := by decide +kernel
theorem dX4_tightest_61 : decode cX4_tightest 61 = .ok (.if_icmp .ge 5, 3) := by decide +kernel
theorem dX4_tightest_64 : decode cX4_tightest 64 = .ok (.iload_n 3, 1) := by decide +kernel
theorem dX4_tightest_65 : decode cX4_tightest 65 = .ok (.istore_n 2, 1) := by decide +kernel
theorem dX4_tightest_66 : decode cX4_tightest 66 = .ok (.iinc 3 1, 3) := by decide +kernel
theorem dX4_tightest_69 : decode cX4_tightest 69 = .ok (.goto (-28), 3) := by decide +kernel
theorem dX4_tightest_72 : decode cX4_tightest 72 = .ok (.iload_n 2, 1) := by decide +kernel
theorem dX4_tightest_73 : decode cX4_tightest 73 = .ok (.ireturn, 1) := by decide +kernel
theorem dX4_hungShare_0 : decode cX4_hungShare 0 = .ok (.aload_n 0, 1) := by decide +kernel
theorem dX4_hungShare_1 : decode cX4_hungShare 1 = .ok (.getfield 48, 3) := by decide +kernel
theorem dX4_hungShare_4 : decode cX4_hungShare 4 = .ok (.ifCond .ne 14, 3) := by decide +kernel
theorem dX4_hungShare_7 : decode cX4_hungShare 7 = .ok (.new 286, 3) := by decide +kernel
theorem dX4_hungShare_10 : decode cX4_hungShare 10 = .ok (.dup, 1) := by decide +kernel
theorem dX4_hungShare_11 : decode cX4_hungShare 11 = .ok (.ldc_w 288, 3) := by decide +kernel
theorem dX4_hungShare_14 : decode cX4_hungShare 14 = .ok (.invokespecial 290, 3) := by decide +kernel
theorem dX4_hungShare_17 : decode cX4_hungShare 17 = .ok (.athrow, 1) := by decide +kernel
theorem dX4_hungShare_18 : decode cX4_hungShare 18 = .ok (.aload_n 0, 1) := by decide +kernel
theorem dX4_hungShare_19 : decode cX4_hungShare 19 = .ok (.getfield 34, 3) := by decide +kernel
theorem dX4_hungShare_22 : decode cX4_hungShare 22 = .ok (.getfield 200, 3) := by decide +kernel
theorem dX4_hungShare_25 : decode cX4_hungShare 25 = .ok (.i2f, 1) := by decide +kernel
theorem dX4_hungShare_26 : decode cX4_hungShare 26 = .ok (.aload_n 0, 1) := by decide +kernel
theorem dX4_hungShare_27 : decode cX4_hungShare 27 = .ok (.getfield 48, 3) := by decide +kernel
theorem dX4_hungShare_30 : decode cX4_hungShare 30 = .ok (.i2f, 1) := by decide +kernel
theorem dX4_hungShare_31 : decode cX4_hungShare 31 = .ok (.fdiv, 1) := by decide +kernel
theorem dX4_hungShare_32 : decode cX4_hungShare 32 = .ok (.freturn, 1) := by decide +kernel
theorem dX4_meanLoad_0 : decode cX4_meanLoad 0 = .ok (.aload_n 0, 1) := by decide +kernel
theorem dX4_meanLoad_1 : decode cX4_meanLoad 1 = .ok (.getfield 44, 3) := by decide +kernel
theorem dX4_meanLoad_4 : decode cX4_meanLoad 4 = .ok (.ifCond .ne 14, 3) := by decide +kernel
theorem dX4_meanLoad_7 : decode cX4_meanLoad 7 = .ok (.new 286, 3) := by decide +kernel
theorem dX4_meanLoad_10 : decode cX4_meanLoad 10 = .ok (.dup, 1) := by decide +kernel
theorem dX4_meanLoad_11 : decode cX4_meanLoad 11 = .ok (.ldc_w 291, 3) := by decide +kernel
theorem dX4_meanLoad_14 : decode cX4_meanLoad 14 = .ok (.invokespecial 290, 3) := by decide +kernel
theorem dX4_meanLoad_17 : decode cX4_meanLoad 17 = .ok (.athrow, 1) := by decide +kernel
theorem dX4_meanLoad_18 : decode cX4_meanLoad 18 = .ok (.iconst 0, 1) := by decide +kernel
theorem dX4_meanLoad_19 : decode cX4_meanLoad 19 = .ok (.istore_n 1, 1) := by decide +kernel
theorem dX4_meanLoad_20 : decode cX4_meanLoad 20 = .ok (.iconst 0, 1) := by decide +kernel
theorem dX4_meanLoad_21 : decode cX4_meanLoad 21 = .ok (.istore_n 2, 1) := by decide +kernel
theorem dX4_meanLoad_22 : decode cX4_meanLoad 22 = .ok (.iload_n 2, 1) := by decide +kernel
theorem dX4_meanLoad_23 : decode cX4_meanLoad 23 = .ok (.aload_n 0, 1) := by decide +kernel
theorem dX4_meanLoad_24 : decode cX4_meanLoad 24 = .ok (.getfield 44, 3) := by decide +kernel
theorem dX4_meanLoad_27 : decode cX4_meanLoad 27 = .ok (.if_icmp .ge 21, 3) := by decide +kernel
theorem dX4_meanLoad_30 : decode cX4_meanLoad 30 = .ok (.iload_n 1, 1) := by decide +kernel
theorem dX4_meanLoad_31 : decode cX4_meanLoad 31 = .ok (.aload_n 0, 1) := by decide +kernel
theorem dX4_meanLoad_32 : decode cX4_meanLoad 32 = .ok (.getfield 34, 3) := by decide +kernel
theorem dX4_meanLoad_35 : decode cX4_meanLoad 35 = .ok (.getfield 221, 3) := by decide +kernel
theorem dX4_meanLoad_38 : decode cX4_meanLoad 38 = .ok (.iload_n 2, 1) := by decide +kernel
theorem dX4_meanLoad_39 : decode cX4_meanLoad 39 = .ok (.iaload, 1) := by decide +kernel
theorem dX4_meanLoad_40 : decode cX4_meanLoad 40 = .ok (.iadd, 1) := by decide +kernel
theorem dX4_meanLoad_41 : decode cX4_meanLoad 41 = .ok (.istore_n 1, 1) := by decide +kernel
theorem dX4_meanLoad_42 : decode cX4_meanLoad 42 = .ok (.iinc 2 1, 3) := by decide +kernel
theorem dX4_meanLoad_45 : decode cX4_meanLoad 45 = .ok (.goto (-23), 3) := by decide +kernel
theorem dX4_meanLoad_48 : decode cX4_meanLoad 48 = .ok (.iload_n 1, 1) := by decide +kernel
theorem dX4_meanLoad_49 : decode cX4_meanLoad 49 = .ok (.i2d, 1) := by decide +kernel
theorem dX4_meanLoad_50 : decode cX4_meanLoad 50 = .ok (.aload_n 0, 1) := by decide +kernel
theorem dX4_meanLoad_51 : decode cX4_meanLoad 51 = .ok (.getfield 44, 3) := by decide +kernel
theorem dX4_meanLoad_54 : decode cX4_meanLoad 54 = .ok (.i2d, 1) := by decide +kernel
theorem dX4_meanLoad_55 : decode cX4_meanLoad 55 = .ok (.ddiv, 1) := by decide +kernel
theorem dX4_meanLoad_56 : decode cX4_meanLoad 56 = .ok (.dreturn, 1) := by decide +kernel
theorem dX4_isSound_0 : decode cX4_isSound 0 = .ok (.aload_n 0, 1) := by decide +kernel
theorem dX4_isSound_1 : decode cX4_isSound 1 = .ok (.getfield 54, 3) := by decide +kernel
theorem dX4_isSound_4 : decode cX4_isSound 4 = .ok (.astore_n 1, 1) := by decide +kernel
theorem dX4_isSound_5 : decode cX4_isSound 5 = .ok (.aload_n 1, 1) := by decide +kernel
theorem dX4_isSound_6 : decode cX4_isSound 6 = .ok (.ifnonnull 5, 3) := by decide +kernel
theorem dX4_isSound_9 : decode cX4_isSound 9 = .ok (.iconst 1, 1) := by decide +kernel
theorem dX4_isSound_10 : decode cX4_isSound 10 = .ok (.ireturn, 1) := by decide +kernel
theorem dX4_isSound_11 : decode cX4_isSound 11 = .ok (.aload_n 0, 1) := by decide +kernel
theorem dX4_isSound_12 : decode cX4_isSound 12 = .ok (.invokevirtual 270, 3) := by decide +kernel
theorem dX4_isSound_15 : decode cX4_isSound 15 = .ok (.aload_n 0, 1) := by decide +kernel
theorem dX4_isSound_16 : decode cX4_isSound 16 = .ok (.invokevirtual 274, 3) := by decide +kernel
theorem dX4_isSound_19 : decode cX4_isSound 19 = .ok (.aload_n 0, 1) := by decide +kernel
theorem dX4_isSound_20 : decode cX4_isSound 20 = .ok (.aload_n 1, 1) := by decide +kernel
theorem dX4_isSound_21 : decode cX4_isSound 21 = .ok (.invokevirtual 293, 3) := by decide +kernel
theorem dX4_isSound_24 : decode cX4_isSound 24 = .ok (.ifCond .eq 45, 3) := by decide +kernel
theorem dX4_isSound_27 : decode cX4_isSound 27 = .ok (.aload_n 0, 1) := by decide +kernel
theorem dX4_isSound_28 : decode cX4_isSound 28 = .ok (.invokevirtual 297, 3) := by decide +kernel
theorem dX4_isSound_31 : decode cX4_isSound 31 = .ok (.ifCond .eq 38, 3) := by decide +kernel
theorem dX4_isSound_34 : decode cX4_isSound 34 = .ok (.aload_n 0, 1) := by decide +kernel
theorem dX4_isSound_35 : decode cX4_isSound 35 = .ok (.aload_n 0, 1) := by decide +kernel
theorem dX4_isSound_36 : decode cX4_isSound 36 = .ok (.getfield 34, 3) := by decide +kernel
theorem dX4_isSound_39 : decode cX4_isSound 39 = .ok (.invokevirtual 262, 3) := by decide +kernel
theorem dX4_isSound_42 : decode cX4_isSound 42 = .ok (.i2l, 1) := by decide +kernel
theorem dX4_isSound_43 : decode cX4_isSound 43 = .ok (.aload_n 0, 1) := by decide +kernel
theorem dX4_isSound_44 : decode cX4_isSound 44 = .ok (.invokevirtual 266, 3) := by decide +kernel
theorem dX4_isSound_47 : decode cX4_isSound 47 = .ok (.lcmp, 1) := by decide +kernel
theorem dX4_isSound_48 : decode cX4_isSound 48 = .ok (.ifCond .ne 21, 3) := by decide +kernel
theorem dX4_isSound_51 : decode cX4_isSound 51 = .ok (.aload_n 0, 1) := by decide +kernel
theorem dX4_isSound_52 : decode cX4_isSound 52 = .ok (.getfield 41, 3) := by decide +kernel
theorem dX4_isSound_55 : decode cX4_isSound 55 = .ok (.getfield 273, 3) := by decide +kernel
theorem dX4_isSound_58 : decode cX4_isSound 58 = .ok (.aload_n 0, 1) := by decide +kernel
theorem dX4_isSound_59 : decode cX4_isSound 59 = .ok (.getfield 61, 3) := by decide +kernel
theorem dX4_isSound_62 : decode cX4_isSound 62 = .ok (.if_icmp .ne 7, 3) := by decide +kernel
theorem dX4_isSound_65 : decode cX4_isSound 65 = .ok (.iconst 1, 1) := by decide +kernel
theorem dX4_isSound_66 : decode cX4_isSound 66 = .ok (.goto 4, 3) := by decide +kernel
theorem dX4_isSound_69 : decode cX4_isSound 69 = .ok (.iconst 0, 1) := by decide +kernel
theorem dX4_isSound_70 : decode cX4_isSound 70 = .ok (.ireturn, 1) := by decide +kernel
theorem dX4_isOutside_0 : decode cX4_isOutside 0 = .ok (.iload_n 0, 1) := by decide +kernel
theorem dX4_isOutside_1 : decode cX4_isOutside 1 = .ok (.iload_n 1, 1) := by decide +kernel
theorem dX4_isOutside_2 : decode cX4_isOutside 2 = .ok (.if_icmp .lt 8, 3) := by decide +kernel
theorem dX4_isOutside_5 : decode cX4_isOutside 5 = .ok (.iload_n 0, 1) := by decide +kernel
theorem dX4_isOutside_6 : decode cX4_isOutside 6 = .ok (.iload_n 2, 1) := by decide +kernel
theorem dX4_isOutside_7 : decode cX4_isOutside 7 = .ok (.if_icmp .le 7, 3) := by decide +kernel
theorem dX4_isOutside_10 : decode cX4_isOutside 10 = .ok (.iconst 1, 1) := by decide +kernel
theorem dX4_isOutside_11 : decode cX4_isOutside 11 = .ok (.goto 4, 3) := by decide +kernel
theorem dX4_isOutside_14 : decode cX4_isOutside 14 = .ok (.iconst 0, 1) := by decide +kernel
theorem dX4_isOutside_15 : decode cX4_isOutside 15 = .ok (.ireturn, 1) := by decide +kernel
theorem dX4_checkPoint_0 : decode cX4_checkPoint 0 = .ok (.iload_n 1, 1) := by decide +kernel
theorem dX4_checkPoint_1 : decode cX4_checkPoint 1 = .ok (.iconst 0, 1) := by decide +kernel
theorem dX4_checkPoint_2 : decode cX4_checkPoint 2 = .ok (.aload_n 0, 1) := by decide +kernel
theorem dX4_checkPoint_3 : decode cX4_checkPoint 3 = .ok (.getfield 44, 3) := by decide +kernel
theorem dX4_checkPoint_6 : decode cX4_checkPoint 6 = .ok (.iconst 1, 1) := by decide +kernel
theorem dX4_checkPoint_7 : decode cX4_checkPoint 7 = .ok (.isub, 1) := by decide +kernel
theorem dX4_checkPoint_8 : decode cX4_checkPoint 8 = .ok (.invokestatic 69, 3) := by decide +kernel
theorem dX4_checkPoint_11 : decode cX4_checkPoint 11 = .ok (.ifCond .eq 14, 3) := by decide +kernel
theorem dX4_checkPoint_14 : decode cX4_checkPoint 14 = .ok (.new 157, 3) := by decide +kernel
theorem dX4_checkPoint_17 : decode cX4_checkPoint 17 = .ok (.dup, 1) := by decide +kernel
theorem dX4_checkPoint_18 : decode cX4_checkPoint 18 = .ok (.ldc_w 301, 3) := by decide +kernel
theorem dX4_checkPoint_21 : decode cX4_checkPoint 21 = .ok (.invokespecial 161, 3) := by decide +kernel
theorem dX4_checkPoint_24 : decode cX4_checkPoint 24 = .ok (.athrow, 1) := by decide +kernel
theorem dX4_checkPoint_25 : decode cX4_checkPoint 25 = .ok (.return_, 1) := by decide +kernel
theorem dX4_checkPiece_0 : decode cX4_checkPiece 0 = .ok (.iload_n 1, 1) := by decide +kernel
theorem dX4_checkPiece_1 : decode cX4_checkPiece 1 = .ok (.iconst 0, 1) := by decide +kernel
theorem dX4_checkPiece_2 : decode cX4_checkPiece 2 = .ok (.aload_n 0, 1) := by decide +kernel
theorem dX4_checkPiece_3 : decode cX4_checkPiece 3 = .ok (.getfield 48, 3) := by decide +kernel
theorem dX4_checkPiece_6 : decode cX4_checkPiece 6 = .ok (.iconst 1, 1) := by decide +kernel
theorem dX4_checkPiece_7 : decode cX4_checkPiece 7 = .ok (.isub, 1) := by decide +kernel
theorem dX4_checkPiece_8 : decode cX4_checkPiece 8 = .ok (.invokestatic 69, 3) := by decide +kernel
theorem dX4_checkPiece_11 : decode cX4_checkPiece 11 = .ok (.ifCond .eq 14, 3) := by decide +kernel
theorem dX4_checkPiece_14 : decode cX4_checkPiece 14 = .ok (.new 206, 3) := by decide +kernel
theorem dX4_checkPiece_17 : decode cX4_checkPiece 17 = .ok (.dup, 1) := by decide +kernel
theorem dX4_checkPiece_18 : decode cX4_checkPiece 18 = .ok (.ldc_w 303, 3) := by decide +kernel
theorem dX4_checkPiece_21 : decode cX4_checkPiece 21 = .ok (.invokespecial 210, 3) := by decide +kernel
theorem dX4_checkPiece_24 : decode cX4_checkPiece 24 = .ok (.athrow, 1) := by decide +kernel
theorem dX4_checkPiece_25 : decode cX4_checkPiece 25 = .ok (.return_, 1) := by decide +kernel
theorem dX4_checkTown_0 : decode cX4_checkTown 0 = .ok (.iload_n 1, 1) := by decide +kernel
theorem dX4_checkTown_1 : decode cX4_checkTown 1 = .ok (.iconst 0, 1) := by decide +kernel
theorem dX4_checkTown_2 : decode cX4_checkTown 2 = .ok (.aload_n 0, 1) := by decide +kernel
theorem dX4_checkTown_3 : decode cX4_checkTown 3 = .ok (.getfield 51, 3) := by decide +kernel
theorem dX4_checkTown_6 : decode cX4_checkTown 6 = .ok (.iconst 1, 1) := by decide +kernel
theorem dX4_checkTown_7 : decode cX4_checkTown 7 = .ok (.isub, 1) := by decide +kernel
theorem dX4_checkTown_8 : decode cX4_checkTown 8 = .ok (.invokestatic 69, 3) := by decide +kernel
theorem dX4_checkTown_11 : decode cX4_checkTown 11 = .ok (.ifCond .eq 14, 3) := by decide +kernel
theorem dX4_checkTown_14 : decode cX4_checkTown 14 = .ok (.new 206, 3) := by decide +kernel
theorem dX4_checkTown_17 : decode cX4_checkTown 17 = .ok (.dup, 1) := by decide +kernel
theorem dX4_checkTown_18 : decode cX4_checkTown 18 = .ok (.ldc_w 305, 3) := by decide +kernel
theorem dX4_checkTown_21 : decode cX4_checkTown 21 = .ok (.invokespecial 210, 3) := by decide +kernel
theorem dX4_checkTown_24 : decode cX4_checkTown 24 = .ok (.athrow, 1) := by decide +kernel
theorem dX4_checkTown_25 : decode cX4_checkTown 25 = .ok (.return_, 1) := by decide +kernel
theorem dX4_checkNotHung_0 : decode cX4_checkNotHung 0 = .ok (.iload_n 1, 1) := by decide +kernel
theorem dX4_checkNotHung_1 : decode cX4_checkNotHung 1 = .ok (.aload_n 0, 1) := by decide +kernel
theorem dX4_checkNotHung_2 : decode cX4_checkNotHung 2 = .ok (.getfield 34, 3) := by decide +kernel
theorem dX4_checkNotHung_5 : decode cX4_checkNotHung 5 = .ok (.getfield 307, 3) := by decide +kernel
theorem dX4_checkNotHung_8 : decode cX4_checkNotHung 8 = .ok (.invokestatic 140, 3) := by decide +kernel
theorem dX4_checkNotHung_11 : decode cX4_checkNotHung 11 = .ok (.ifCond .eq 14, 3) := by decide +kernel
theorem dX4_checkNotHung_14 : decode cX4_checkNotHung 14 = .ok (.new 80, 3) := by decide +kernel
theorem dX4_checkNotHung_17 : decode cX4_checkNotHung 17 = .ok (.dup, 1) := by decide +kernel
theorem dX4_checkNotHung_18 : decode cX4_checkNotHung 18 = .ok (.ldc_w 310, 3) := by decide +kernel
theorem dX4_checkNotHung_21 : decode cX4_checkNotHung 21 = .ok (.invokespecial 84, 3) := by decide +kernel
theorem dX4_checkNotHung_24 : decode cX4_checkNotHung 24 = .ok (.athrow, 1) := by decide +kernel
theorem dX4_checkNotHung_25 : decode cX4_checkNotHung 25 = .ok (.return_, 1) := by decide +kernel
theorem dX4_pieceAt_0 : decode cX4_pieceAt 0 = .ok (.iload_n 1, 1) := by decide +kernel
theorem dX4_pieceAt_1 : decode cX4_pieceAt 1 = .ok (.iconst 0, 1) := by decide +kernel
theorem dX4_pieceAt_2 : decode cX4_pieceAt 2 = .ok (.aload_n 0, 1) := by decide +kernel
theorem dX4_pieceAt_3 : decode cX4_pieceAt 3 = .ok (.getfield 200, 3) := by decide +kernel
theorem dX4_pieceAt_6 : decode cX4_pieceAt 6 = .ok (.iconst 1, 1) := by decide +kernel
theorem dX4_pieceAt_7 : decode cX4_pieceAt 7 = .ok (.isub, 1) := by decide +kernel
theorem dX4_pieceAt_8 : decode cX4_pieceAt 8 = .ok (.invokestatic 69, 3) := by decide +kernel
theorem dX4_pieceAt_11 : decode cX4_pieceAt 11 = .ok (.ifCond .eq 14, 3) := by decide +kernel
theorem dX4_pieceAt_14 : decode cX4_pieceAt 14 = .ok (.new 157, 3) := by decide +kernel
theorem dX4_pieceAt_17 : decode cX4_pieceAt 17 = .ok (.dup, 1) := by decide +kernel
theorem dX4_pieceAt_18 : decode cX4_pieceAt 18 = .ok (.ldc_w 303, 3) := by decide +kernel
theorem dX4_pieceAt_21 : decode cX4_pieceAt 21 = .ok (.invokespecial 161, 3) := by decide +kernel
theorem dX4_pieceAt_24 : decode cX4_pieceAt 24 = .ok (.athrow, 1) := by decide +kernel
theorem dX4_pieceAt_25 : decode cX4_pieceAt 25 = .ok (.aload_n 0, 1) := by decide +kernel
theorem dX4_pieceAt_26 : decode cX4_pieceAt 26 = .ok (.getfield 240, 3) := by decide +kernel
theorem dX4_pieceAt_29 : decode cX4_pieceAt 29 = .ok (.iload_n 1, 1) := by decide +kernel
theorem dX4_pieceAt_30 : decode cX4_pieceAt 30 = .ok (.iaload, 1) := by decide +kernel
theorem dX4_pieceAt_31 : decode cX4_pieceAt 31 = .ok (.ireturn, 1) := by decide +kernel
theorem dX4_isIn_0 : decode cX4_isIn 0 = .ok (.iload_n 1, 1) := by decide +kernel
theorem dX4_isIn_1 : decode cX4_isIn 1 = .ok (.iload_n 0, 1) := by decide +kernel
theorem dX4_isIn_2 : decode cX4_isIn 2 = .ok (.ishr, 1) := by decide +kernel
theorem dX4_isIn_3 : decode cX4_isIn 3 = .ok (.iconst 1, 1) := by decide +kernel
theorem dX4_isIn_4 : decode cX4_isIn 4 = .ok (.iand, 1) := by decide +kernel
theorem dX4_isIn_5 : decode cX4_isIn 5 = .ok (.ifCond .eq 7, 3) := by decide +kernel
theorem dX4_isIn_8 : decode cX4_isIn 8 = .ok (.iconst 1, 1) := by decide +kernel
theorem dX4_isIn_9 : decode cX4_isIn 9 = .ok (.goto 4, 3) := by decide +kernel
theorem dX4_isIn_12 : decode cX4_isIn 12 = .ok (.iconst 0, 1) := by decide +kernel
theorem dX4_isIn_13 : decode cX4_isIn 13 = .ok (.ireturn, 1) := by decide +kernel
theorem dX4_loadOfPart_0 : decode cX4_loadOfPart 0 = .ok (.iload_n 0, 1) := by decide +kernel
theorem dX4_loadOfPart_1 : decode cX4_loadOfPart 1 = .ok (.bipush 100, 2) := by decide +kernel
theorem dX4_loadOfPart_3 : decode cX4_loadOfPart 3 = .ok (.iload_n 1, 1) := by decide +kernel
theorem dX4_loadOfPart_4 : decode cX4_loadOfPart 4 = .ok (.iadd, 1) := by decide +kernel
theorem dX4_loadOfPart_5 : decode cX4_loadOfPart 5 = .ok (.imul, 1) := by decide +kernel
theorem dX4_loadOfPart_6 : decode cX4_loadOfPart 6 = .ok (.bipush 99, 2) := by decide +kernel
theorem dX4_loadOfPart_8 : decode cX4_loadOfPart 8 = .ok (.iadd, 1) := by decide +kernel
theorem dX4_loadOfPart_9 : decode cX4_loadOfPart 9 = .ok (.bipush 100, 2) := by decide +kernel
theorem dX4_loadOfPart_11 : decode cX4_loadOfPart 11 = .ok (.idiv, 1) := by decide +kernel
theorem dX4_loadOfPart_12 : decode cX4_loadOfPart 12 = .ok (.ireturn, 1) := by decide +kernel
theorem dX4_allNeedsOf_0 : decode cX4_allNeedsOf 0 = .ok (.aload_n 0, 1) := by decide +kernel
theorem dX4_allNeedsOf_1 : decode cX4_allNeedsOf 1 = .ok (.getfield 17, 3) := by decide +kernel
theorem dX4_allNeedsOf_4 : decode cX4_allNeedsOf 4 = .ok (.iload_n 1, 1) := by decide +kernel
theorem dX4_allNeedsOf_5 : decode cX4_allNeedsOf 5 = .ok (.aaload, 1) := by decide +kernel
theorem dX4_allNeedsOf_6 : decode cX4_allNeedsOf 6 = .ok (.getfield 149, 3) := by decide +kernel
theorem dX4_allNeedsOf_9 : decode cX4_allNeedsOf 9 = .ok (.istore_n 2, 1) := by decide +kernel
theorem dX4_allNeedsOf_10 : decode cX4_allNeedsOf 10 = .ok (.iconst 0, 1) := by decide +kernel
theorem dX4_allNeedsOf_11 : decode cX4_allNeedsOf 11 = .ok (.istore_n 3, 1) := by decide +kernel
theorem dX4_allNeedsOf_12 : decode cX4_allNeedsOf 12 = .ok (.iload_n 3, 1) := by decide +kernel
theorem dX4_allNeedsOf_13 : decode cX4_allNeedsOf 13 = .ok (.aload_n 0, 1) := by decide +kernel
theorem dX4_allNeedsOf_14 : decode cX4_allNeedsOf 14 = .ok (.getfield 48, 3) := by decide +kernel
theorem dX4_allNeedsOf_17 : decode cX4_allNeedsOf 17 = .ok (.if_icmp .ge 49, 3) := by decide +kernel
theorem dX4_allNeedsOf_20 : decode cX4_allNeedsOf 20 = .ok (.iconst 0, 1) := by decide +kernel
theorem dX4_allNeedsOf_21 : decode cX4_allNeedsOf 21 = .ok (.istore 4, 2) := by decide +kernel
theorem dX4_allNeedsOf_23 : decode cX4_allNeedsOf 23 = .ok (.iload 4, 2) := by decide +kernel
theorem dX4_allNeedsOf_25 : decode cX4_allNeedsOf 25 = .ok (.aload_n 0, 1) := by decide +kernel
theorem dX4_allNeedsOf_26 : decode cX4_allNeedsOf 26 = .ok (.getfield 48, 3) := by decide +kernel
theorem dX4_allNeedsOf_29 : decode cX4_allNeedsOf 29 = .ok (.if_icmp .ge 31, 3) := by decide +kernel
theorem dX4_allNeedsOf_32 : decode cX4_allNeedsOf 32 = .ok (.iload 4, 2) := by decide +kernel
theorem dX4_allNeedsOf_34 : decode cX4_allNeedsOf 34 = .ok (.iload_n 2, 1) := by decide +kernel
theorem dX4_allNeedsOf_35 : decode cX4_allNeedsOf 35 = .ok (.invokestatic 140, 3) := by decide +kernel
theorem dX4_allNeedsOf_38 : decode cX4_allNeedsOf 38 = .ok (.ifCond .eq 16, 3) := by decide +kernel
theorem dX4_allNeedsOf_41 : decode cX4_allNeedsOf 41 = .ok (.iload_n 2, 1) := by decide +kernel
theorem dX4_allNeedsOf_42 : decode cX4_allNeedsOf 42 = .ok (.aload_n 0, 1) := by decide +kernel
theorem dX4_allNeedsOf_43 : decode cX4_allNeedsOf 43 = .ok (.getfield 17, 3) := by decide +kernel
theorem dX4_allNeedsOf_46 : decode cX4_allNeedsOf 46 = .ok (.iload 4, 2) := by decide +kernel
theorem dX4_allNeedsOf_48 : decode cX4_allNeedsOf 48 = .ok (.aaload, 1) := by decide +kernel
theorem dX4_allNeedsOf_49 : decode cX4_allNeedsOf 49 = .ok (.getfield 149, 3) := by decide +kernel
theorem dX4_allNeedsOf_52 : decode cX4_allNeedsOf 52 = .ok (.ior, 1) := by decide +kernel
theorem dX4_allNeedsOf_53 : decode cX4_allNeedsOf 53 = .ok (.istore_n 2, 1) := by decide +kernel
theorem dX4_allNeedsOf_54 : decode cX4_allNeedsOf 54 = .ok (.iinc 4 1, 3) := by decide +kernel
theorem dX4_allNeedsOf_57 : decode cX4_allNeedsOf 57 = .ok (.goto (-34), 3) := by decide +kernel
theorem dX4_allNeedsOf_60 : decode cX4_allNeedsOf 60 = .ok (.iinc 3 1, 3) := by decide +kernel
theorem dX4_allNeedsOf_63 : decode cX4_allNeedsOf 63 = .ok (.goto (-51), 3) := by decide +kernel
theorem dX4_allNeedsOf_66 : decode cX4_allNeedsOf 66 = .ok (.iload_n 2, 1) := by decide +kernel
theorem dX4_allNeedsOf_67 : decode cX4_allNeedsOf 67 = .ok (.ireturn, 1) := by decide +kernel
theorem dX4_isInUse_0 : decode cX4_isInUse 0 = .ok (.iconst 0, 1) := by decide +kernel
theorem dX4_isInUse_1 : decode cX4_isInUse 1 = .ok (.istore_n 2, 1) := by decide +kernel
theorem dX4_isInUse_2 : decode cX4_isInUse 2 = .ok (.iload_n 2, 1) := by decide +kernel
theorem dX4_isInUse_3 : decode cX4_isInUse 3 = .ok (.aload_n 0, 1) := by decide +kernel
theorem dX4_isInUse_4 : decode cX4_isInUse 4 = .ok (.getfield 48, 3) := by decide +kernel
theorem dX4_isInUse_7 : decode cX4_isInUse 7 = .ok (.if_icmp .ge 38, 3) := by decide +kernel
theorem dX4_isInUse_10 : decode cX4_isInUse 10 = .ok (.aload_n 0, 1) := by decide +kernel
theorem dX4_isInUse_11 : decode cX4_isInUse 11 = .ok (.getfield 17, 3) := by decide +kernel
theorem dX4_isInUse_14 : decode cX4_isInUse 14 = .ok (.iload_n 2, 1) := by decide +kernel
theorem dX4_isInUse_15 : decode cX4_isInUse 15 = .ok (.aaload, 1) := by decide +kernel
theorem dX4_isInUse_16 : decode cX4_isInUse 16 = .ok (.getfield 104, 3) := by decide +kernel
theorem dX4_isInUse_19 : decode cX4_isInUse 19 = .ok (.iload_n 1, 1) := by decide +kernel
theorem dX4_isInUse_20 : decode cX4_isInUse 20 = .ok (.if_icmp .ne 19, 3) := by decide +kernel
theorem dX4_isInUse_23 : decode cX4_isInUse 23 = .ok (.iload_n 2, 1) := by decide +kernel
theorem dX4_isInUse_24 : decode cX4_isInUse 24 = .ok (.aload_n 0, 1) := by decide +kernel
theorem dX4_isInUse_25 : decode cX4_isInUse 25 = .ok (.getfield 34, 3) := by decide +kernel
theorem dX4_isInUse_28 : decode cX4_isInUse 28 = .ok (.getfield 307, 3) := by decide +kernel
theorem dX4_isInUse_31 : decode cX4_isInUse 31 = .ok (.invokestatic 140, 3) := by decide +kernel
theorem dX4_isInUse_34 : decode cX4_isInUse 34 = .ok (.ifCond .eq 5, 3) := by decide +kernel
theorem dX4_isInUse_37 : decode cX4_isInUse 37 = .ok (.iconst 1, 1) := by decide +kernel
theorem dX4_isInUse_38 : decode cX4_isInUse 38 = .ok (.ireturn, 1) := by decide +kernel
theorem dX4_isInUse_39 : decode cX4_isInUse 39 = .ok (.iinc 2 1, 3) := by decide +kernel
theorem dX4_isInUse_42 : decode cX4_isInUse 42 = .ok (.goto (-40), 3) := by decide +kernel
theorem dX4_isInUse_45 : decode cX4_isInUse 45 = .ok (.iconst 0, 1) := by decide +kernel
theorem dX4_isInUse_46 : decode cX4_isInUse 46 = .ok (.ireturn, 1) := by decide +kernel
theorem dX4_leftAt_0 : decode cX4_leftAt 0 = .ok (.aload_n 2, 1) := by decide +kernel
theorem dX4_leftAt_1 : decode cX4_leftAt 1 = .ok (.aload_n 0, 1) := by decide +kernel
theorem dX4_leftAt_2 : decode cX4_leftAt 2 = .ok (.getfield 11, 3) := by decide +kernel
theorem dX4_leftAt_5 : decode cX4_leftAt 5 = .ok (.iload_n 1, 1) := by decide +kernel
theorem dX4_leftAt_6 : decode cX4_leftAt 6 = .ok (.aaload, 1) := by decide +kernel
theorem dX4_leftAt_7 : decode cX4_leftAt 7 = .ok (.invokevirtual 217, 3) := by decide +kernel
theorem dX4_leftAt_10 : decode cX4_leftAt 10 = .ok (.aload_n 0, 1) := by decide +kernel
theorem dX4_leftAt_11 : decode cX4_leftAt 11 = .ok (.getfield 34, 3) := by decide +kernel
theorem dX4_leftAt_14 : decode cX4_leftAt 14 = .ok (.getfield 221, 3) := by decide +kernel
theorem dX4_leftAt_17 : decode cX4_leftAt 17 = .ok (.iload_n 1, 1) := by decide +kernel
theorem dX4_leftAt_18 : decode cX4_leftAt 18 = .ok (.iaload, 1) := by decide +kernel
theorem dX4_leftAt_19 : decode cX4_leftAt 19 = .ok (.isub, 1) := by decide +kernel
theorem dX4_leftAt_20 : decode cX4_leftAt 20 = .ok (.ireturn, 1) := by decide +kernel
theorem dX4_reasonAgainst_0 : decode cX4_reasonAgainst 0 = .ok (.aload_n 0, 1) := by decide +kernel
theorem dX4_reasonAgainst_1 : decode cX4_reasonAgainst 1 = .ok (.getfield 54, 3) := by decide +kernel
theorem dX4_reasonAgainst_4 : decode cX4_reasonAgainst 4 = .ok (.astore_n 3, 1) := by decide +kernel
theorem dX4_reasonAgainst_5 : decode cX4_reasonAgainst 5 = .ok (.aload_n 3, 1) := by decide +kernel
theorem dX4_reasonAgainst_6 : decode cX4_reasonAgainst 6 = .ok (.ifnonnull 6, 3) := by decide +kernel
theorem dX4_reasonAgainst_9 : decode cX4_reasonAgainst 9 = .ok (.bipush 116, 2) := by decide +kernel
theorem dX4_reasonAgainst_11 : decode cX4_reasonAgainst 11 = .ok (.ireturn, 1) := by decide +kernel
theorem dX4_reasonAgainst_12 : decode cX4_reasonAgainst 12 = .ok (.iload_n 2, 1) := by decide +kernel
theorem dX4_reasonAgainst_13 : decode cX4_reasonAgainst 13 = .ok (.aload_n 1, 1) := by decide +kernel
theorem dX4_reasonAgainst_14 : decode cX4_reasonAgainst 14 = .ok (.getfield 307, 3) := by decide +kernel
theorem dX4_reasonAgainst_17 : decode cX4_reasonAgainst 17 = .ok (.invokestatic 140, 3) := by decide +kernel
theorem dX4_reasonAgainst_20 : decode cX4_reasonAgainst 20 = .ok (.ifCond .eq 6, 3) := by decide +kernel
theorem dX4_reasonAgainst_23 : decode cX4_reasonAgainst 23 = .ok (.bipush 104, 2) := by decide +kernel
theorem dX4_reasonAgainst_25 : decode cX4_reasonAgainst 25 = .ok (.ireturn, 1) := by decide +kernel
theorem dX4_reasonAgainst_26 : decode cX4_reasonAgainst 26 = .ok (.aload_n 0, 1) := by decide +kernel
theorem dX4_reasonAgainst_27 : decode cX4_reasonAgainst 27 = .ok (.getfield 17, 3) := by decide +kernel
theorem dX4_reasonAgainst_30 : decode cX4_reasonAgainst 30 = .ok (.iload_n 2, 1) := by decide +kernel
theorem dX4_reasonAgainst_31 : decode cX4_reasonAgainst 31 = .ok (.aaload, 1) := by decide +kernel
theorem dX4_reasonAgainst_32 : decode cX4_reasonAgainst 32 = .ok (.astore 4, 2) := by decide +kernel
theorem dX4_reasonAgainst_34 : decode cX4_reasonAgainst 34 = .ok (.aload 4, 2) := by decide +kernel
theorem dX4_reasonAgainst_36 : decode cX4_reasonAgainst 36 = .ok (.invokevirtual 312, 3) := by decide +kernel
theorem dX4_reasonAgainst_39 : decode cX4_reasonAgainst 39 = .ok (.ifCond .ne 6, 3) := by decide +kernel
theorem dX4_reasonAgainst_42 : decode cX4_reasonAgainst 42 = .ok (.bipush 102, 2) := by decide +kernel
theorem dX4_reasonAgainst_44 : decode cX4_reasonAgainst 44 = .ok (.ireturn, 1) := by decide +kernel
theorem dX4_reasonAgainst_45 : decode cX4_reasonAgainst 45 = .ok (.aload 4, 2) := by decide +kernel
theorem dX4_reasonAgainst_47 : decode cX4_reasonAgainst 47 = .ok (.getfield 149, 3) := by decide +kernel
theorem dX4_reasonAgainst_50 : decode cX4_reasonAgainst 50 = .ok (.aload_n 1, 1) := by decide +kernel
theorem dX4_reasonAgainst_51 : decode cX4_reasonAgainst 51 = .ok (.getfield 307, 3) := by decide +kernel
theorem dX4_reasonAgainst_54 : decode cX4_reasonAgainst 54 = .ok (.iconst (-1), 1) := by decide +kernel
theorem dX4_reasonAgainst_55 : decode cX4_reasonAgainst 55 = .ok (.ixor, 1) := by decide +kernel
theorem dX4_reasonAgainst_56 : decode cX4_reasonAgainst 56 = .ok (.iand, 1) := by decide +kernel
theorem dX4_reasonAgainst_57 : decode cX4_reasonAgainst 57 = .ok (.ifCond .eq 6, 3) := by decide +kernel
theorem dX4_reasonAgainst_60 : decode cX4_reasonAgainst 60 = .ok (.bipush 110, 2) := by decide +kernel
theorem dX4_reasonAgainst_62 : decode cX4_reasonAgainst 62 = .ok (.ireturn, 1) := by decide +kernel
theorem dX4_reasonAgainst_63 : decode cX4_reasonAgainst 63 = .ok (.aload 4, 2) := by decide +kernel
theorem dX4_reasonAgainst_65 : decode cX4_reasonAgainst 65 = .ok (.getfield 98, 3) := by decide +kernel
theorem dX4_reasonAgainst_68 : decode cX4_reasonAgainst 68 = .ok (.aload_n 3, 1) := by decide +kernel
theorem dX4_reasonAgainst_69 : decode cX4_reasonAgainst 69 = .ok (.getfield 177, 3) := by decide +kernel
theorem dX4_reasonAgainst_72 : decode cX4_reasonAgainst 72 = .ok (.if_icmp .le 6, 3) := by decide +kernel
theorem dX4_reasonAgainst_75 : decode cX4_reasonAgainst 75 = .ok (.bipush 115, 2) := by decide +kernel
theorem dX4_reasonAgainst_77 : decode cX4_reasonAgainst 77 = .ok (.ireturn, 1) := by decide +kernel
theorem dX4_reasonAgainst_78 : decode cX4_reasonAgainst 78 = .ok (.aload_n 0, 1) := by decide +kernel
theorem dX4_reasonAgainst_79 : decode cX4_reasonAgainst 79 = .ok (.aload_n 1, 1) := by decide +kernel
theorem dX4_reasonAgainst_80 : decode cX4_reasonAgainst 80 = .ok (.aload 4, 2) := by decide +kernel
theorem dX4_reasonAgainst_82 : decode cX4_reasonAgainst 82 = .ok (.aload_n 3, 1) := by decide +kernel
theorem dX4_reasonAgainst_83 : decode cX4_reasonAgainst 83 = .ok (.invokevirtual 315, 3) := by decide +kernel
theorem dX4_reasonAgainst_86 : decode cX4_reasonAgainst 86 = .ok (.ifCond .eq 6, 3) := by decide +kernel
theorem dX4_reasonAgainst_89 : decode cX4_reasonAgainst 89 = .ok (.bipush 108, 2) := by decide +kernel
theorem dX4_reasonAgainst_91 : decode cX4_reasonAgainst 91 = .ok (.ireturn, 1) := by decide +kernel
theorem dX4_reasonAgainst_92 : decode cX4_reasonAgainst 92 = .ok (.aload_n 0, 1) := by decide +kernel
theorem dX4_reasonAgainst_93 : decode cX4_reasonAgainst 93 = .ok (.aload_n 1, 1) := by decide +kernel
theorem dX4_reasonAgainst_94 : decode cX4_reasonAgainst 94 = .ok (.aload 4, 2) := by decide +kernel
theorem dX4_reasonAgainst_96 : decode cX4_reasonAgainst 96 = .ok (.aload_n 3, 1) := by decide +kernel
theorem dX4_reasonAgainst_97 : decode cX4_reasonAgainst 97 = .ok (.invokevirtual 319, 3) := by decide +kernel
theorem dX4_reasonAgainst_100 : decode cX4_reasonAgainst 100 = .ok (.aload 4, 2) := by decide +kernel
theorem dX4_reasonAgainst_102 : decode cX4_reasonAgainst 102 = .ok (.getfield 98, 3) := by decide +kernel
theorem dX4_reasonAgainst_105 : decode cX4_reasonAgainst 105 = .ok (.iadd, 1) := by decide +kernel
theorem dX4_reasonAgainst_106 : decode cX4_reasonAgainst 106 = .ok (.aload_n 3, 1) := by decide +kernel
theorem dX4_reasonAgainst_107 : decode cX4_reasonAgainst 107 = .ok (.getfield 183, 3) := by decide +kernel
theorem dX4_reasonAgainst_110 : decode cX4_reasonAgainst 110 = .ok (.if_icmp .le 6, 3) := by decide +kernel
theorem dX4_reasonAgainst_113 : decode cX4_reasonAgainst 113 = .ok (.bipush 99, 2) := by decide +kernel
theorem dX4_reasonAgainst_115 : decode cX4_reasonAgainst 115 = .ok (.ireturn, 1) := by decide +kernel
theorem dX4_reasonAgainst_116 : decode cX4_reasonAgainst 116 = .ok (.bipush 45, 2) := by decide +kernel
theorem dX4_reasonAgainst_118 : decode cX4_reasonAgainst 118 = .ok (.ireturn, 1) := by decide +kernel
theorem dX4_overloads_0 : decode cX4_overloads 0 = .ok (.aload_n 2, 1) := by decide +kernel
theorem dX4_overloads_1 : decode cX4_overloads 1 = .ok (.getfield 118, 3) := by decide +kernel
theorem dX4_overloads_4 : decode cX4_overloads 4 = .ok (.istore 4, 2) := by decide +kernel
theorem dX4_overloads_6 : decode cX4_overloads 6 = .ok (.aload_n 2, 1) := by decide +kernel
theorem dX4_overloads_7 : decode cX4_overloads 7 = .ok (.getfield 121, 3) := by decide +kernel
theorem dX4_overloads_10 : decode cX4_overloads 10 = .ok (.istore 5, 2) := by decide +kernel
theorem dX4_overloads_12 : decode cX4_overloads 12 = .ok (.iload 4, 2) := by decide +kernel
theorem dX4_overloads_14 : decode cX4_overloads 14 = .ok (.ifCond .lt 8, 3) := by decide +kernel
theorem dX4_overloads_17 : decode cX4_overloads 17 = .ok (.iload 5, 2) := by decide +kernel
theorem dX4_overloads_19 : decode cX4_overloads 19 = .ok (.ifCond .ge 5, 3) := by decide +kernel
theorem dX4_overloads_22 : decode cX4_overloads 22 = .ok (.iconst 0, 1) := by decide +kernel
theorem dX4_overloads_23 : decode cX4_overloads 23 = .ok (.ireturn, 1) := by decide +kernel
theorem dX4_overloads_24 : decode cX4_overloads 24 = .ok (.aload_n 1, 1) := by decide +kernel
theorem dX4_overloads_25 : decode cX4_overloads 25 = .ok (.getfield 221, 3) := by decide +kernel
theorem dX4_overloads_28 : decode cX4_overloads 28 = .ok (.iload 4, 2) := by decide +kernel
theorem dX4_overloads_30 : decode cX4_overloads 30 = .ok (.iaload, 1) := by decide +kernel
theorem dX4_overloads_31 : decode cX4_overloads 31 = .ok (.aload_n 2, 1) := by decide +kernel
theorem dX4_overloads_32 : decode cX4_overloads 32 = .ok (.getfield 128, 3) := by decide +kernel
theorem dX4_overloads_35 : decode cX4_overloads 35 = .ok (.iadd, 1) := by decide +kernel
theorem dX4_overloads_36 : decode cX4_overloads 36 = .ok (.aload_n 3, 1) := by decide +kernel
theorem dX4_overloads_37 : decode cX4_overloads 37 = .ok (.aload_n 0, 1) := by decide +kernel
theorem dX4_overloads_38 : decode cX4_overloads 38 = .ok (.getfield 11, 3) := by decide +kernel
theorem dX4_overloads_41 : decode cX4_overloads 41 = .ok (.iload 4, 2) := by decide +kernel
theorem dX4_overloads_43 : decode cX4_overloads 43 = .ok (.aaload, 1) := by decide +kernel
theorem dX4_overloads_44 : decode cX4_overloads 44 = .ok (.invokevirtual 217, 3) := by decide +kernel
theorem dX4_overloads_47 : decode cX4_overloads 47 = .ok (.if_icmp .gt 29, 3) := by decide +kernel
theorem dX4_overloads_50 : decode cX4_overloads 50 = .ok (.aload_n 1, 1) := by decide +kernel
theorem dX4_overloads_51 : decode cX4_overloads 51 = .ok (.getfield 221, 3) := by decide +kernel
theorem dX4_overloads_54 : decode cX4_overloads 54 = .ok (.iload 5, 2) := by decide +kernel
theorem dX4_overloads_56 : decode cX4_overloads 56 = .ok (.iaload, 1) := by decide +kernel
theorem dX4_overloads_57 : decode cX4_overloads 57 = .ok (.aload_n 2, 1) := by decide +kernel
theorem dX4_overloads_58 : decode cX4_overloads 58 = .ok (.getfield 131, 3) := by decide +kernel
theorem dX4_overloads_61 : decode cX4_overloads 61 = .ok (.iadd, 1) := by decide +kernel
theorem dX4_overloads_62 : decode cX4_overloads 62 = .ok (.aload_n 3, 1) := by decide +kernel
theorem dX4_overloads_63 : decode cX4_overloads 63 = .ok (.aload_n 0, 1) := by decide +kernel
theorem dX4_overloads_64 : decode cX4_overloads 64 = .ok (.getfield 11, 3) := by decide +kernel
theorem dX4_overloads_67 : decode cX4_overloads 67 = .ok (.iload 5, 2) := by decide +kernel
theorem dX4_overloads_69 : decode cX4_overloads 69 = .ok (.aaload, 1) := by decide +kernel
theorem dX4_overloads_70 : decode cX4_overloads 70 = .ok (.invokevirtual 217, 3) := by decide +kernel
theorem dX4_overloads_73 : decode cX4_overloads 73 = .ok (.if_icmp .le 7, 3) := by decide +kernel
theorem dX4_overloads_76 : decode cX4_overloads 76 = .ok (.iconst 1, 1) := by decide +kernel
theorem dX4_overloads_77 : decode cX4_overloads 77 = .ok (.goto 4, 3) := by decide +kernel
theorem dX4_overloads_80 : decode cX4_overloads 80 = .ok (.iconst 0, 1) := by decide +kernel
theorem dX4_overloads_81 : decode cX4_overloads 81 = .ok (.ireturn, 1) := by decide +kernel
theorem dX4_workCarried_0 : decode cX4_workCarried 0 = .ok (.aload_n 0, 1) := by decide +kernel
theorem dX4_workCarried_1 : decode cX4_workCarried 1 = .ok (.getfield 27, 3) := by decide +kernel
theorem dX4_workCarried_4 : decode cX4_workCarried 4 = .ok (.aload_n 2, 1) := by decide +kernel
theorem dX4_workCarried_5 : decode cX4_workCarried 5 = .ok (.getfield 104, 3) := by decide +kernel
theorem dX4_workCarried_8 : decode cX4_workCarried 8 = .ok (.iaload, 1) := by decide +kernel
theorem dX4_workCarried_9 : decode cX4_workCarried 9 = .ok (.aload_n 1, 1) := by decide +kernel
theorem dX4_workCarried_10 : decode cX4_workCarried 10 = .ok (.invokevirtual 234, 3) := by decide +kernel
theorem dX4_workCarried_13 : decode cX4_workCarried 13 = .ok (.isub, 1) := by decide +kernel
theorem dX4_workCarried_14 : decode cX4_workCarried 14 = .ok (.aload_n 3, 1) := by decide +kernel
theorem dX4_workCarried_15 : decode cX4_workCarried 15 = .ok (.getfield 180, 3) := by decide +kernel
theorem dX4_workCarried_18 : decode cX4_workCarried 18 = .ok (.if_icmp .lt 7, 3) := by decide +kernel
theorem dX4_workCarried_21 : decode cX4_workCarried 21 = .ok (.iconst 1, 1) := by decide +kernel
theorem dX4_workCarried_22 : decode cX4_workCarried 22 = .ok (.goto 4, 3) := by decide +kernel
theorem dX4_workCarried_25 : decode cX4_workCarried 25 = .ok (.iconst 0, 1) := by decide +kernel
theorem dX4_workCarried_26 : decode cX4_workCarried 26 = .ok (.istore 4, 2) := by decide +kernel
theorem dX4_workCarried_28 : decode cX4_workCarried 28 = .ok (.iload 4, 2) := by decide +kernel
theorem dX4_workCarried_30 : decode cX4_workCarried 30 = .ok (.ifCond .eq 7, 3) := by decide +kernel
theorem dX4_workCarried_33 : decode cX4_workCarried 33 = .ok (.iconst 0, 1) := by decide +kernel
theorem dX4_workCarried_34 : decode cX4_workCarried 34 = .ok (.goto 7, 3) := by decide +kernel
theorem dX4_workCarried_37 : decode cX4_workCarried 37 = .ok (.aload_n 1, 1) := by decide +kernel
theorem dX4_workCarried_38 : decode cX4_workCarried 38 = .ok (.invokevirtual 259, 3) := by decide +kernel
theorem dX4_workCarried_41 : decode cX4_workCarried 41 = .ok (.ireturn, 1) := by decide +kernel
theorem dX4_beginNext_0 : decode cX4_beginNext 0 = .ok (.aload_n 1, 1) := by decide +kernel
theorem dX4_beginNext_1 : decode cX4_beginNext 1 = .ok (.invokevirtual 234, 3) := by decide +kernel
theorem dX4_beginNext_4 : decode cX4_beginNext 4 = .ok (.aload_n 0, 1) := by decide +kernel
theorem dX4_beginNext_5 : decode cX4_beginNext 5 = .ok (.getfield 27, 3) := by decide +kernel
theorem dX4_beginNext_8 : decode cX4_beginNext 8 = .ok (.aload_n 2, 1) := by decide +kernel
theorem dX4_beginNext_9 : decode cX4_beginNext 9 = .ok (.getfield 104, 3) := by decide +kernel
theorem dX4_beginNext_12 : decode cX4_beginNext 12 = .ok (.iaload, 1) := by decide +kernel
theorem dX4_beginNext_13 : decode cX4_beginNext 13 = .ok (.invokestatic 323, 3) := by decide +kernel
theorem dX4_beginNext_16 : decode cX4_beginNext 16 = .ok (.istore 4, 2) := by decide +kernel
theorem dX4_beginNext_18 : decode cX4_beginNext 18 = .ok (.aload_n 0, 1) := by decide +kernel
theorem dX4_beginNext_19 : decode cX4_beginNext 19 = .ok (.aload_n 1, 1) := by decide +kernel
theorem dX4_beginNext_20 : decode cX4_beginNext 20 = .ok (.aload_n 2, 1) := by decide +kernel
theorem dX4_beginNext_21 : decode cX4_beginNext 21 = .ok (.aload_n 3, 1) := by decide +kernel
theorem dX4_beginNext_22 : decode cX4_beginNext 22 = .ok (.invokevirtual 328, 3) := by decide +kernel
theorem dX4_beginNext_25 : decode cX4_beginNext 25 = .ok (.aload_n 2, 1) := by decide +kernel
theorem dX4_beginNext_26 : decode cX4_beginNext 26 = .ok (.getfield 98, 3) := by decide +kernel
theorem dX4_beginNext_29 : decode cX4_beginNext 29 = .ok (.iadd, 1) := by decide +kernel
theorem dX4_beginNext_30 : decode cX4_beginNext 30 = .ok (.aload_n 3, 1) := by decide +kernel
theorem dX4_beginNext_31 : decode cX4_beginNext 31 = .ok (.getfield 177, 3) := by decide +kernel
theorem dX4_beginNext_34 : decode cX4_beginNext 34 = .ok (.if_icmp .le 7, 3) := by decide +kernel
theorem dX4_beginNext_37 : decode cX4_beginNext 37 = .ok (.iconst 1, 1) := by decide +kernel
theorem dX4_beginNext_38 : decode cX4_beginNext 38 = .ok (.goto 4, 3) := by decide +kernel
theorem dX4_beginNext_41 : decode cX4_beginNext 41 = .ok (.iconst 0, 1) := by decide +kernel
theorem dX4_beginNext_42 : decode cX4_beginNext 42 = .ok (.istore 5, 2) := by decide +kernel
theorem dX4_beginNext_44 : decode cX4_beginNext 44 = .ok (.iload 5, 2) := by decide +kernel
theorem dX4_beginNext_46 : decode cX4_beginNext 46 = .ok (.ifCond .eq 13, 3) := by decide +kernel
theorem dX4_beginNext_49 : decode cX4_beginNext 49 = .ok (.iload 4, 2) := by decide +kernel
theorem dX4_beginNext_51 : decode cX4_beginNext 51 = .ok (.aload_n 3, 1) := by decide +kernel
theorem dX4_beginNext_52 : decode cX4_beginNext 52 = .ok (.getfield 180, 3) := by decide +kernel
theorem dX4_beginNext_55 : decode cX4_beginNext 55 = .ok (.iadd, 1) := by decide +kernel
theorem dX4_beginNext_56 : decode cX4_beginNext 56 = .ok (.goto 5, 3) := by decide +kernel
theorem dX4_beginNext_59 : decode cX4_beginNext 59 = .ok (.iload 4, 2) := by decide +kernel
theorem dX4_beginNext_61 : decode cX4_beginNext 61 = .ok (.ireturn, 1) := by decide +kernel
theorem dX4_workNext_0 : decode cX4_workNext 0 = .ok (.aload_n 0, 1) := by decide +kernel
theorem dX4_workNext_1 : decode cX4_workNext 1 = .ok (.aload_n 1, 1) := by decide +kernel
theorem dX4_workNext_2 : decode cX4_workNext 2 = .ok (.aload_n 2, 1) := by decide +kernel
theorem dX4_workNext_3 : decode cX4_workNext 3 = .ok (.aload_n 3, 1) := by decide +kernel
theorem dX4_workNext_4 : decode cX4_workNext 4 = .ok (.invokevirtual 328, 3) := by decide +kernel
theorem dX4_workNext_7 : decode cX4_workNext 7 = .ok (.aload_n 2, 1) := by decide +kernel
theorem dX4_workNext_8 : decode cX4_workNext 8 = .ok (.getfield 98, 3) := by decide +kernel
theorem dX4_workNext_11 : decode cX4_workNext 11 = .ok (.iadd, 1) := by decide +kernel
theorem dX4_workNext_12 : decode cX4_workNext 12 = .ok (.istore 4, 2) := by decide +kernel
theorem dX4_workNext_14 : decode cX4_workNext 14 = .ok (.iload 4, 2) := by decide +kernel
theorem dX4_workNext_16 : decode cX4_workNext 16 = .ok (.aload_n 3, 1) := by decide +kernel
theorem dX4_workNext_17 : decode cX4_workNext 17 = .ok (.getfield 177, 3) := by decide +kernel
theorem dX4_workNext_20 : decode cX4_workNext 20 = .ok (.if_icmp .le 10, 3) := by decide +kernel
theorem dX4_workNext_23 : decode cX4_workNext 23 = .ok (.aload_n 2, 1) := by decide +kernel
theorem dX4_workNext_24 : decode cX4_workNext 24 = .ok (.getfield 98, 3) := by decide +kernel
theorem dX4_workNext_27 : decode cX4_workNext 27 = .ok (.goto 5, 3) := by decide +kernel
theorem dX4_workNext_30 : decode cX4_workNext 30 = .ok (.iload 4, 2) := by decide +kernel
theorem dX4_workNext_32 : decode cX4_workNext 32 = .ok (.ireturn, 1) := by decide +kernel
theorem dX4_putOn_0 : decode cX4_putOn 0 = .ok (.aload_n 0, 1) := by decide +kernel
theorem dX4_putOn_1 : decode cX4_putOn 1 = .ok (.getfield 17, 3) := by decide +kernel
theorem dX4_putOn_4 : decode cX4_putOn 4 = .ok (.iload_n 2, 1) := by decide +kernel
theorem dX4_putOn_5 : decode cX4_putOn 5 = .ok (.aaload, 1) := by decide +kernel
theorem dX4_putOn_6 : decode cX4_putOn 6 = .ok (.astore 4, 2) := by decide +kernel
theorem dX4_putOn_8 : decode cX4_putOn 8 = .ok (.aload_n 1, 1) := by decide +kernel
theorem dX4_putOn_9 : decode cX4_putOn 9 = .ok (.getfield 200, 3) := by decide +kernel
theorem dX4_putOn_12 : decode cX4_putOn 12 = .ok (.istore 5, 2) := by decide +kernel
theorem dX4_putOn_14 : decode cX4_putOn 14 = .ok (.iload 5, 2) := by decide +kernel
theorem dX4_putOn_16 : decode cX4_putOn 16 = .ok (.bipush 6, 2) := by decide +kernel
theorem dX4_putOn_18 : decode cX4_putOn 18 = .ok (.if_icmp .ge 19, 3) := by decide +kernel
theorem dX4_putOn_21 : decode cX4_putOn 21 = .ok (.aload 4, 2) := by decide +kernel
theorem dX4_putOn_23 : decode cX4_putOn 23 = .ok (.getfield 118, 3) := by decide +kernel
theorem dX4_putOn_26 : decode cX4_putOn 26 = .ok (.ifCond .lt 11, 3) := by decide +kernel
theorem dX4_putOn_29 : decode cX4_putOn 29 = .ok (.aload 4, 2) := by decide +kernel
theorem dX4_putOn_31 : decode cX4_putOn 31 = .ok (.getfield 121, 3) := by decide +kernel
theorem dX4_putOn_34 : decode cX4_putOn 34 = .ok (.ifCond .ge 4, 3) := by decide +kernel
theorem dX4_putOn_37 : decode cX4_putOn 37 = .ok (.return_, 1) := by decide +kernel
theorem dX4_putOn_38 : decode cX4_putOn 38 = .ok (.aload_n 0, 1) := by decide +kernel
theorem dX4_putOn_39 : decode cX4_putOn 39 = .ok (.aload_n 1, 1) := by decide +kernel
theorem dX4_putOn_40 : decode cX4_putOn 40 = .ok (.aload 4, 2) := by decide +kernel
theorem dX4_putOn_42 : decode cX4_putOn 42 = .ok (.aload_n 3, 1) := by decide +kernel
theorem dX4_putOn_43 : decode cX4_putOn 43 = .ok (.invokevirtual 319, 3) := by decide +kernel
theorem dX4_putOn_46 : decode cX4_putOn 46 = .ok (.istore 6, 2) := by decide +kernel
theorem dX4_putOn_48 : decode cX4_putOn 48 = .ok (.aload_n 0, 1) := by decide +kernel
theorem dX4_putOn_49 : decode cX4_putOn 49 = .ok (.aload_n 1, 1) := by decide +kernel
theorem dX4_putOn_50 : decode cX4_putOn 50 = .ok (.aload 4, 2) := by decide +kernel
theorem dX4_putOn_52 : decode cX4_putOn 52 = .ok (.aload_n 3, 1) := by decide +kernel
theorem dX4_putOn_53 : decode cX4_putOn 53 = .ok (.invokevirtual 331, 3) := by decide +kernel
theorem dX4_putOn_56 : decode cX4_putOn 56 = .ok (.istore 7, 2) := by decide +kernel
theorem dX4_putOn_58 : decode cX4_putOn 58 = .ok (.aload_n 1, 1) := by decide +kernel
theorem dX4_putOn_59 : decode cX4_putOn 59 = .ok (.getfield 240, 3) := by decide +kernel
theorem dX4_putOn_62 : decode cX4_putOn 62 = .ok (.iload 5, 2) := by decide +kernel
theorem dX4_putOn_64 : decode cX4_putOn 64 = .ok (.iload_n 2, 1) := by decide +kernel
theorem dX4_putOn_65 : decode cX4_putOn 65 = .ok (.iastore, 1) := by decide +kernel
theorem dX4_putOn_66 : decode cX4_putOn 66 = .ok (.aload_n 1, 1) := by decide +kernel
theorem dX4_putOn_67 : decode cX4_putOn 67 = .ok (.getfield 256, 3) := by decide +kernel
theorem dX4_putOn_70 : decode cX4_putOn 70 = .ok (.iload 5, 2) := by decide +kernel
theorem dX4_putOn_72 : decode cX4_putOn 72 = .ok (.iload 6, 2) := by decide +kernel
theorem dX4_putOn_74 : decode cX4_putOn 74 = .ok (.iastore, 1) := by decide +kernel
theorem dX4_putOn_75 : decode cX4_putOn 75 = .ok (.aload_n 1, 1) := by decide +kernel
theorem dX4_putOn_76 : decode cX4_putOn 76 = .ok (.getfield 334, 3) := by decide +kernel
theorem dX4_putOn_79 : decode cX4_putOn 79 = .ok (.iload 5, 2) := by decide +kernel
theorem dX4_putOn_81 : decode cX4_putOn 81 = .ok (.iload 6, 2) := by decide +kernel
theorem dX4_putOn_83 : decode cX4_putOn 83 = .ok (.aload 4, 2) := by decide +kernel
theorem dX4_putOn_85 : decode cX4_putOn 85 = .ok (.getfield 98, 3) := by decide +kernel
theorem dX4_putOn_88 : decode cX4_putOn 88 = .ok (.iadd, 1) := by decide +kernel
theorem dX4_putOn_89 : decode cX4_putOn 89 = .ok (.iastore, 1) := by decide +kernel
theorem dX4_putOn_90 : decode cX4_putOn 90 = .ok (.aload_n 1, 1) := by decide +kernel
theorem dX4_putOn_91 : decode cX4_putOn 91 = .ok (.getfield 337, 3) := by decide +kernel
theorem dX4_putOn_94 : decode cX4_putOn 94 = .ok (.iload 5, 2) := by decide +kernel
theorem dX4_putOn_96 : decode cX4_putOn 96 = .ok (.iload 7, 2) := by decide +kernel
theorem dX4_putOn_98 : decode cX4_putOn 98 = .ok (.iastore, 1) := by decide +kernel
theorem dX4_putOn_99 : decode cX4_putOn 99 = .ok (.aload_n 1, 1) := by decide +kernel
theorem dX4_putOn_100 : decode cX4_putOn 100 = .ok (.getfield 221, 3) := by decide +kernel
theorem dX4_putOn_103 : decode cX4_putOn 103 = .ok (.aload 4, 2) := by decide +kernel
theorem dX4_putOn_105 : decode cX4_putOn 105 = .ok (.getfield 118, 3) := by decide +kernel
theorem dX4_putOn_108 : decode cX4_putOn 108 = .ok (.dup2, 1) := by decide +kernel
theorem dX4_putOn_109 : decode cX4_putOn 109 = .ok (.iaload, 1) := by decide +kernel
theorem dX4_putOn_110 : decode cX4_putOn 110 = .ok (.aload 4, 2) := by decide +kernel
theorem dX4_putOn_112 : decode cX4_putOn 112 = .ok (.getfield 128, 3) := by decide +kernel
theorem dX4_putOn_115 : decode cX4_putOn 115 = .ok (.iadd, 1) := by decide +kernel
theorem dX4_putOn_116 : decode cX4_putOn 116 = .ok (.iastore, 1) := by decide +kernel
theorem dX4_putOn_117 : decode cX4_putOn 117 = .ok (.aload_n 1, 1) := by decide +kernel
theorem dX4_putOn_118 : decode cX4_putOn 118 = .ok (.getfield 221, 3) := by decide +kernel
theorem dX4_putOn_121 : decode cX4_putOn 121 = .ok (.aload 4, 2) := by decide +kernel
theorem dX4_putOn_123 : decode cX4_putOn 123 = .ok (.getfield 121, 3) := by decide +kernel
theorem dX4_putOn_126 : decode cX4_putOn 126 = .ok (.dup2, 1) := by decide +kernel
theorem dX4_putOn_127 : decode cX4_putOn 127 = .ok (.iaload, 1) := by decide +kernel
theorem dX4_putOn_128 : decode cX4_putOn 128 = .ok (.aload 4, 2) := by decide +kernel
theorem dX4_putOn_130 : decode cX4_putOn 130 = .ok (.getfield 131, 3) := by decide +kernel
theorem dX4_putOn_133 : decode cX4_putOn 133 = .ok (.iadd, 1) := by decide +kernel
theorem dX4_putOn_134 : decode cX4_putOn 134 = .ok (.iastore, 1) := by decide +kernel
theorem dX4_putOn_135 : decode cX4_putOn 135 = .ok (.aload_n 1, 1) := by decide +kernel
theorem dX4_putOn_136 : decode cX4_putOn 136 = .ok (.dup, 1) := by decide +kernel
theorem dX4_putOn_137 : decode cX4_putOn 137 = .ok (.getfield 307, 3) := by decide +kernel
theorem dX4_putOn_140 : decode cX4_putOn 140 = .ok (.iconst 1, 1) := by decide +kernel
theorem dX4_putOn_141 : decode cX4_putOn 141 = .ok (.iload_n 2, 1) := by decide +kernel
theorem dX4_putOn_142 : decode cX4_putOn 142 = .ok (.ishl, 1) := by decide +kernel
theorem dX4_putOn_143 : decode cX4_putOn 143 = .ok (.ior, 1) := by decide +kernel
theorem dX4_putOn_144 : decode cX4_putOn 144 = .ok (.putfield 307, 3) := by decide +kernel
theorem dX4_putOn_147 : decode cX4_putOn 147 = .ok (.aload_n 1, 1) := by decide +kernel
theorem dX4_putOn_148 : decode cX4_putOn 148 = .ok (.dup, 1) := by decide +kernel
theorem dX4_putOn_149 : decode cX4_putOn 149 = .ok (.getfield 273, 3) := by decide +kernel
theorem dX4_putOn_152 : decode cX4_putOn 152 = .ok (.aload 4, 2) := by decide +kernel
theorem dX4_putOn_154 : decode cX4_putOn 154 = .ok (.getfield 101, 3) := by decide +kernel
theorem dX4_putOn_157 : decode cX4_putOn 157 = .ok (.iadd, 1) := by decide +kernel
theorem dX4_putOn_158 : decode cX4_putOn 158 = .ok (.putfield 273, 3) := by decide +kernel
theorem dX4_putOn_161 : decode cX4_putOn 161 = .ok (.aload_n 1, 1) := by decide +kernel
theorem dX4_putOn_162 : decode cX4_putOn 162 = .ok (.iload 5, 2) := by decide +kernel
theorem dX4_putOn_164 : decode cX4_putOn 164 = .ok (.iconst 1, 1) := by decide +kernel
theorem dX4_putOn_165 : decode cX4_putOn 165 = .ok (.iadd, 1) := by decide +kernel
theorem dX4_putOn_166 : decode cX4_putOn 166 = .ok (.putfield 200, 3) := by decide +kernel
theorem dX4_putOn_169 : decode cX4_putOn 169 = .ok (.return_, 1) := by decide +kernel
theorem dX4_takeLastOff_0 : decode cX4_takeLastOff 0 = .ok (.aload_n 1, 1) := by decide +kernel
theorem dX4_takeLastOff_1 : decode cX4_takeLastOff 1 = .ok (.getfield 200, 3) := by decide +kernel
theorem dX4_takeLastOff_4 : decode cX4_takeLastOff 4 = .ok (.iconst 1, 1) := by decide +kernel
theorem dX4_takeLastOff_5 : decode cX4_takeLastOff 5 = .ok (.isub, 1) := by decide +kernel
theorem dX4_takeLastOff_6 : decode cX4_takeLastOff 6 = .ok (.istore_n 2, 1) := by decide +kernel
theorem dX4_takeLastOff_7 : decode cX4_takeLastOff 7 = .ok (.iload_n 2, 1) := by decide +kernel
theorem dX4_takeLastOff_8 : decode cX4_takeLastOff 8 = .ok (.ifCond .ge 4, 3) := by decide +kernel
theorem dX4_takeLastOff_11 : decode cX4_takeLastOff 11 = .ok (.return_, 1) := by decide +kernel
theorem dX4_takeLastOff_12 : decode cX4_takeLastOff 12 = .ok (.aload_n 1, 1) := by decide +kernel
theorem dX4_takeLastOff_13 : decode cX4_takeLastOff 13 = .ok (.getfield 240, 3) := by decide +kernel
theorem dX4_takeLastOff_16 : decode cX4_takeLastOff 16 = .ok (.iload_n 2, 1) := by decide +kernel
theorem dX4_takeLastOff_17 : decode cX4_takeLastOff 17 = .ok (.iaload, 1) := by decide +kernel
theorem dX4_takeLastOff_18 : decode cX4_takeLastOff 18 = .ok (.istore_n 3, 1) := by decide +kernel
theorem dX4_takeLastOff_19 : decode cX4_takeLastOff 19 = .ok (.aload_n 0, 1) := by decide +kernel
theorem dX4_takeLastOff_20 : decode cX4_takeLastOff 20 = .ok (.getfield 17, 3) := by decide +kernel
theorem dX4_takeLastOff_23 : decode cX4_takeLastOff 23 = .ok (.iload_n 3, 1) := by decide +kernel
theorem dX4_takeLastOff_24 : decode cX4_takeLastOff 24 = .ok (.aaload, 1) := by decide +kernel
theorem dX4_takeLastOff_25 : decode cX4_takeLastOff 25 = .ok (.astore 4, 2) := by decide +kernel
theorem dX4_takeLastOff_27 : decode cX4_takeLastOff 27 = .ok (.aload 4, 2) := by decide +kernel
theorem dX4_takeLastOff_29 : decode cX4_takeLastOff 29 = .ok (.getfield 118, 3) := by decide +kernel
theorem dX4_takeLastOff_32 : decode cX4_takeLastOff 32 = .ok (.ifCond .lt 11, 3) := by decide +kernel
theorem dX4_takeLastOff_35 : decode cX4_takeLastOff 35 = .ok (.aload 4, 2) := by decide +kernel
theorem dX4_takeLastOff_37 : decode cX4_takeLastOff 37 = .ok (.getfield 121, 3) := by decide +kernel
theorem dX4_takeLastOff_40 : decode cX4_takeLastOff 40 = .ok (.ifCond .ge 4, 3) := by decide +kernel
theorem dX4_takeLastOff_43 : decode cX4_takeLastOff 43 = .ok (.return_, 1) := by decide +kernel
theorem dX4_takeLastOff_44 : decode cX4_takeLastOff 44 = .ok (.aload_n 1, 1) := by decide +kernel
theorem dX4_takeLastOff_45 : decode cX4_takeLastOff 45 = .ok (.getfield 221, 3) := by decide +kernel
theorem dX4_takeLastOff_48 : decode cX4_takeLastOff 48 = .ok (.aload 4, 2) := by decide +kernel
theorem dX4_takeLastOff_50 : decode cX4_takeLastOff 50 = .ok (.getfield 118, 3) := by decide +kernel
theorem dX4_takeLastOff_53 : decode cX4_takeLastOff 53 = .ok (.dup2, 1) := by decide +kernel
theorem dX4_takeLastOff_54 : decode cX4_takeLastOff 54 = .ok (.iaload, 1) := by decide +kernel
theorem dX4_takeLastOff_55 : decode cX4_takeLastOff 55 = .ok (.aload 4, 2) := by decide +kernel
theorem dX4_takeLastOff_57 : decode cX4_takeLastOff 57 = .ok (.getfield 128, 3) := by decide +kernel
theorem dX4_takeLastOff_60 : decode cX4_takeLastOff 60 = .ok (.isub, 1) := by decide +kernel
theorem dX4_takeLastOff_61 : decode cX4_takeLastOff 61 = .ok (.iastore, 1) := by decide +kernel
theorem dX4_takeLastOff_62 : decode cX4_takeLastOff 62 = .ok (.aload_n 1, 1) := by decide +kernel
theorem dX4_takeLastOff_63 : decode cX4_takeLastOff 63 = .ok (.getfield 221, 3) := by decide +kernel
theorem dX4_takeLastOff_66 : decode cX4_takeLastOff 66 = .ok (.aload 4, 2) := by decide +kernel
theorem dX4_takeLastOff_68 : decode cX4_takeLastOff 68 = .ok (.getfield 121, 3) := by decide +kernel
theorem dX4_takeLastOff_71 : decode cX4_takeLastOff 71 = .ok (.dup2, 1) := by decide +kernel
theorem dX4_takeLastOff_72 : decode cX4_takeLastOff 72 = .ok (.iaload, 1) := by decide +kernel
theorem dX4_takeLastOff_73 : decode cX4_takeLastOff 73 = .ok (.aload 4, 2) := by decide +kernel
theorem dX4_takeLastOff_75 : decode cX4_takeLastOff 75 = .ok (.getfield 131, 3) := by decide +kernel
theorem dX4_takeLastOff_78 : decode cX4_takeLastOff 78 = .ok (.isub, 1) := by decide +kernel
theorem dX4_takeLastOff_79 : decode cX4_takeLastOff 79 = .ok (.iastore, 1) := by decide +kernel
theorem dX4_takeLastOff_80 : decode cX4_takeLastOff 80 = .ok (.aload_n 1, 1) := by decide +kernel
theorem dX4_takeLastOff_81 : decode cX4_takeLastOff 81 = .ok (.dup, 1) := by decide +kernel
theorem dX4_takeLastOff_82 : decode cX4_takeLastOff 82 = .ok (.getfield 307, 3) := by decide +kernel
theorem dX4_takeLastOff_85 : decode cX4_takeLastOff 85 = .ok (.iconst 1, 1) := by decide +kernel
theorem dX4_takeLastOff_86 : decode cX4_takeLastOff 86 = .ok (.iload_n 3, 1) := by decide +kernel
theorem dX4_takeLastOff_87 : decode cX4_takeLastOff 87 = .ok (.ishl, 1) := by decide +kernel
theorem dX4_takeLastOff_88 : decode cX4_takeLastOff 88 = .ok (.iconst (-1), 1) := by decide +kernel
theorem dX4_takeLastOff_89 : decode cX4_takeLastOff 89 = .ok (.ixor, 1) := by decide +kernel
theorem dX4_takeLastOff_90 : decode cX4_takeLastOff 90 = .ok (.iand, 1) := by decide +kernel
theorem dX4_takeLastOff_91 : decode cX4_takeLastOff 91 = .ok (.putfield 307, 3) := by decide +kernel
theorem dX4_takeLastOff_94 : decode cX4_takeLastOff 94 = .ok (.aload_n 1, 1) := by decide +kernel
theorem dX4_takeLastOff_95 : decode cX4_takeLastOff 95 = .ok (.dup, 1) := by decide +kernel
theorem dX4_takeLastOff_96 : decode cX4_takeLastOff 96 = .ok (.getfield 273, 3) := by decide +kernel
theorem dX4_takeLastOff_99 : decode cX4_takeLastOff 99 = .ok (.aload 4, 2) := by decide +kernel
theorem dX4_takeLastOff_101 : decode cX4_takeLastOff 101 = .ok (.getfield 101, 3) := by decide +kernel
theorem dX4_takeLastOff_104 : decode cX4_takeLastOff 104 = .ok (.isub, 1) := by decide +kernel
theorem dX4_takeLastOff_105 : decode cX4_takeLastOff 105 = .ok (.putfield 273, 3) := by decide +kernel
theorem dX4_takeLastOff_108 : decode cX4_takeLastOff 108 = .ok (.aload_n 1, 1) := by decide +kernel
theorem dX4_takeLastOff_109 : decode cX4_takeLastOff 109 = .ok (.iload_n 2, 1) := by decide +kernel
theorem dX4_takeLastOff_110 : decode cX4_takeLastOff 110 = .ok (.putfield 200, 3) := by decide +kernel
theorem dX4_takeLastOff_113 : decode cX4_takeLastOff 113 = .ok (.return_, 1) := by decide +kernel
theorem dX4_costByPieces_0 : decode cX4_costByPieces 0 = .ok (.aload_n 0, 1) := by decide +kernel
theorem dX4_costByPieces_1 : decode cX4_costByPieces 1 = .ok (.getfield 54, 3) := by decide +kernel
theorem dX4_costByPieces_4 : decode cX4_costByPieces 4 = .ok (.astore_n 2, 1) := by decide +kernel
theorem dX4_costByPieces_5 : decode cX4_costByPieces 5 = .ok (.aload_n 2, 1) := by decide +kernel
theorem dX4_costByPieces_6 : decode cX4_costByPieces 6 = .ok (.ifnonnull 5, 3) := by decide +kernel
theorem dX4_costByPieces_9 : decode cX4_costByPieces 9 = .ok (.iconst 0, 1) := by decide +kernel
theorem dX4_costByPieces_10 : decode cX4_costByPieces 10 = .ok (.ireturn, 1) := by decide +kernel
theorem dX4_costByPieces_11 : decode cX4_costByPieces 11 = .ok (.iconst 0, 1) := by decide +kernel
theorem dX4_costByPieces_12 : decode cX4_costByPieces 12 = .ok (.istore_n 3, 1) := by decide +kernel
theorem dX4_costByPieces_13 : decode cX4_costByPieces 13 = .ok (.iconst 0, 1) := by decide +kernel
theorem dX4_costByPieces_14 : decode cX4_costByPieces 14 = .ok (.istore 4, 2) := by decide +kernel
theorem dX4_costByPieces_16 : decode cX4_costByPieces 16 = .ok (.iload 4, 2) := by decide +kernel
theorem dX4_costByPieces_18 : decode cX4_costByPieces 18 = .ok (.aload_n 1, 1) := by decide +kernel
theorem dX4_costByPieces_19 : decode cX4_costByPieces 19 = .ok (.getfield 200, 3) := by decide +kernel
theorem dX4_costByPieces_22 : decode cX4_costByPieces 22 = .ok (.if_icmp .ge 70, 3) := by decide +kernel
theorem dX4_costByPieces_25 : decode cX4_costByPieces 25 = .ok (.aload_n 1, 1) := by decide +kernel
theorem dX4_costByPieces_26 : decode cX4_costByPieces 26 = .ok (.getfield 334, 3) := by decide +kernel
theorem dX4_costByPieces_29 : decode cX4_costByPieces 29 = .ok (.iload 4, 2) := by decide +kernel
theorem dX4_costByPieces_31 : decode cX4_costByPieces 31 = .ok (.iaload, 1) := by decide +kernel
theorem dX4_costByPieces_32 : decode cX4_costByPieces 32 = .ok (.aload_n 1, 1) := by decide +kernel
theorem dX4_costByPieces_33 : decode cX4_costByPieces 33 = .ok (.getfield 256, 3) := by decide +kernel
theorem dX4_costByPieces_36 : decode cX4_costByPieces 36 = .ok (.iload 4, 2) := by decide +kernel
theorem dX4_costByPieces_38 : decode cX4_costByPieces 38 = .ok (.iaload, 1) := by decide +kernel
theorem dX4_costByPieces_39 : decode cX4_costByPieces 39 = .ok (.isub, 1) := by decide +kernel
theorem dX4_costByPieces_40 : decode cX4_costByPieces 40 = .ok (.istore 5, 2) := by decide +kernel
theorem dX4_costByPieces_42 : decode cX4_costByPieces 42 = .ok (.iconst 0, 1) := by decide +kernel
theorem dX4_costByPieces_43 : decode cX4_costByPieces 43 = .ok (.iload 5, 2) := by decide +kernel
theorem dX4_costByPieces_45 : decode cX4_costByPieces 45 = .ok (.aload_n 2, 1) := by decide +kernel
theorem dX4_costByPieces_46 : decode cX4_costByPieces 46 = .ok (.getfield 194, 3) := by decide +kernel
theorem dX4_costByPieces_49 : decode cX4_costByPieces 49 = .ok (.aload_n 1, 1) := by decide +kernel
theorem dX4_costByPieces_50 : decode cX4_costByPieces 50 = .ok (.getfield 256, 3) := by decide +kernel
theorem dX4_costByPieces_53 : decode cX4_costByPieces 53 = .ok (.iload 4, 2) := by decide +kernel
theorem dX4_costByPieces_55 : decode cX4_costByPieces 55 = .ok (.iaload, 1) := by decide +kernel
theorem dX4_costByPieces_56 : decode cX4_costByPieces 56 = .ok (.isub, 1) := by decide +kernel
theorem dX4_costByPieces_57 : decode cX4_costByPieces 57 = .ok (.invokestatic 340, 3) := by decide +kernel
theorem dX4_costByPieces_60 : decode cX4_costByPieces 60 = .ok (.invokestatic 323, 3) := by decide +kernel
theorem dX4_costByPieces_63 : decode cX4_costByPieces 63 = .ok (.istore 6, 2) := by decide +kernel
theorem dX4_costByPieces_65 : decode cX4_costByPieces 65 = .ok (.iload_n 3, 1) := by decide +kernel
theorem dX4_costByPieces_66 : decode cX4_costByPieces 66 = .ok (.iload 6, 2) := by decide +kernel
theorem dX4_costByPieces_68 : decode cX4_costByPieces 68 = .ok (.aload_n 2, 1) := by decide +kernel
theorem dX4_costByPieces_69 : decode cX4_costByPieces 69 = .ok (.getfield 191, 3) := by decide +kernel
theorem dX4_costByPieces_72 : decode cX4_costByPieces 72 = .ok (.imul, 1) := by decide +kernel
theorem dX4_costByPieces_73 : decode cX4_costByPieces 73 = .ok (.iload 5, 2) := by decide +kernel
theorem dX4_costByPieces_75 : decode cX4_costByPieces 75 = .ok (.iload 6, 2) := by decide +kernel
theorem dX4_costByPieces_77 : decode cX4_costByPieces 77 = .ok (.isub, 1) := by decide +kernel
theorem dX4_costByPieces_78 : decode cX4_costByPieces 78 = .ok (.aload_n 2, 1) := by decide +kernel
theorem dX4_costByPieces_79 : decode cX4_costByPieces 79 = .ok (.getfield 197, 3) := by decide +kernel
theorem dX4_costByPieces_82 : decode cX4_costByPieces 82 = .ok (.imul, 1) := by decide +kernel
theorem dX4_costByPieces_83 : decode cX4_costByPieces 83 = .ok (.iadd, 1) := by decide +kernel
theorem dX4_costByPieces_84 : decode cX4_costByPieces 84 = .ok (.iadd, 1) := by decide +kernel
theorem dX4_costByPieces_85 : decode cX4_costByPieces 85 = .ok (.istore_n 3, 1) := by decide +kernel
theorem dX4_costByPieces_86 : decode cX4_costByPieces 86 = .ok (.iinc 4 1, 3) := by decide +kernel
theorem dX4_costByPieces_89 : decode cX4_costByPieces 89 = .ok (.goto (-73), 3) := by decide +kernel
theorem dX4_costByPieces_92 : decode cX4_costByPieces 92 = .ok (.iload_n 3, 1) := by decide +kernel
theorem dX4_costByPieces_93 : decode cX4_costByPieces 93 = .ok (.ireturn, 1) := by decide +kernel
theorem dX4_costMinuteByMinute_0 : decode cX4_costMinuteByMinute 0 = .ok (.aload_n 0, 1) := by decide +kernel
theorem dX4_costMinuteByMinute_1 : decode cX4_costMinuteByMinute 1 = .ok (.getfield 54, 3) := by decide +kernel
theorem dX4_costMinuteByMinute_4 : decode cX4_costMinuteByMinute 4 = .ok (.astore_n 1, 1) := by decide +kernel
theorem dX4_costMinuteByMinute_5 : decode cX4_costMinuteByMinute 5 = .ok (.aload_n 1, 1) := by decide +kernel
theorem dX4_costMinuteByMinute_6 : decode cX4_costMinuteByMinute 6 = .ok (.ifnonnull 5, 3) := by decide +kernel
theorem dX4_costMinuteByMinute_9 : decode cX4_costMinuteByMinute 9 = .ok (.lconst 0, 1) := by decide +kernel
theorem dX4_costMinuteByMinute_10 : decode cX4_costMinuteByMinute 10 = .ok (.lreturn, 1) := by decide +kernel
theorem dX4_costMinuteByMinute_11 : decode cX4_costMinuteByMinute 11 = .ok (.lconst 0, 1) := by decide +kernel
theorem dX4_costMinuteByMinute_12 : decode cX4_costMinuteByMinute 12 = .ok (.lstore_n 2, 1) := by decide +kernel
theorem dX4_costMinuteByMinute_13 : decode cX4_costMinuteByMinute 13 = .ok (.aload_n 0, 1) := by decide +kernel
theorem dX4_costMinuteByMinute_14 : decode cX4_costMinuteByMinute 14 = .ok (.getfield 34, 3) := by decide +kernel
theorem dX4_costMinuteByMinute_17 : decode cX4_costMinuteByMinute 17 = .ok (.invokevirtual 234, 3) := by decide +kernel
theorem dX4_costMinuteByMinute_20 : decode cX4_costMinuteByMinute 20 = .ok (.istore 4, 2) := by decide +kernel
theorem dX4_costMinuteByMinute_22 : decode cX4_costMinuteByMinute 22 = .ok (.iconst 0, 1) := by decide +kernel
theorem dX4_costMinuteByMinute_23 : decode cX4_costMinuteByMinute 23 = .ok (.istore 5, 2) := by decide +kernel
theorem dX4_costMinuteByMinute_25 : decode cX4_costMinuteByMinute 25 = .ok (.iload 5, 2) := by decide +kernel
theorem dX4_costMinuteByMinute_27 : decode cX4_costMinuteByMinute 27 = .ok (.iload 4, 2) := by decide +kernel
theorem dX4_costMinuteByMinute_29 : decode cX4_costMinuteByMinute 29 = .ok (.if_icmp .ge 46, 3) := by decide +kernel
theorem dX4_costMinuteByMinute_32 : decode cX4_costMinuteByMinute 32 = .ok (.aload_n 0, 1) := by decide +kernel
theorem dX4_costMinuteByMinute_33 : decode cX4_costMinuteByMinute 33 = .ok (.getfield 34, 3) := by decide +kernel
theorem dX4_costMinuteByMinute_36 : decode cX4_costMinuteByMinute 36 = .ok (.iload 5, 2) := by decide +kernel
theorem dX4_costMinuteByMinute_38 : decode cX4_costMinuteByMinute 38 = .ok (.invokevirtual 343, 3) := by decide +kernel
theorem dX4_costMinuteByMinute_41 : decode cX4_costMinuteByMinute 41 = .ok (.ifCond .eq 28, 3) := by decide +kernel
theorem dX4_costMinuteByMinute_44 : decode cX4_costMinuteByMinute 44 = .ok (.lload_n 2, 1) := by decide +kernel
theorem dX4_costMinuteByMinute_45 : decode cX4_costMinuteByMinute 45 = .ok (.iload 5, 2) := by decide +kernel
theorem dX4_costMinuteByMinute_47 : decode cX4_costMinuteByMinute 47 = .ok (.aload_n 1, 1) := by decide +kernel
theorem dX4_costMinuteByMinute_48 : decode cX4_costMinuteByMinute 48 = .ok (.getfield 194, 3) := by decide +kernel
theorem dX4_costMinuteByMinute_51 : decode cX4_costMinuteByMinute 51 = .ok (.if_icmp .ge 11, 3) := by decide +kernel
theorem dX4_costMinuteByMinute_54 : decode cX4_costMinuteByMinute 54 = .ok (.aload_n 1, 1) := by decide +kernel
theorem dX4_costMinuteByMinute_55 : decode cX4_costMinuteByMinute 55 = .ok (.getfield 191, 3) := by decide +kernel
theorem dX4_costMinuteByMinute_58 : decode cX4_costMinuteByMinute 58 = .ok (.i2l, 1) := by decide +kernel
theorem dX4_costMinuteByMinute_59 : decode cX4_costMinuteByMinute 59 = .ok (.goto 8, 3) := by decide +kernel
theorem dX4_costMinuteByMinute_62 : decode cX4_costMinuteByMinute 62 = .ok (.aload_n 1, 1) := by decide +kernel
theorem dX4_costMinuteByMinute_63 : decode cX4_costMinuteByMinute 63 = .ok (.getfield 197, 3) := by decide +kernel
theorem dX4_costMinuteByMinute_66 : decode cX4_costMinuteByMinute 66 = .ok (.i2l, 1) := by decide +kernel
theorem dX4_costMinuteByMinute_67 : decode cX4_costMinuteByMinute 67 = .ok (.ladd, 1) := by decide +kernel
theorem dX4_costMinuteByMinute_68 : decode cX4_costMinuteByMinute 68 = .ok (.lstore_n 2, 1) := by decide +kernel
theorem dX4_costMinuteByMinute_69 : decode cX4_costMinuteByMinute 69 = .ok (.iinc 5 1, 3) := by decide +kernel
theorem dX4_costMinuteByMinute_72 : decode cX4_costMinuteByMinute 72 = .ok (.goto (-47), 3) := by decide +kernel
theorem dX4_costMinuteByMinute_75 : decode cX4_costMinuteByMinute 75 = .ok (.lload_n 2, 1) := by decide +kernel
theorem dX4_costMinuteByMinute_76 : decode cX4_costMinuteByMinute 76 = .ok (.lreturn, 1) := by decide +kernel
theorem dX4_findBest_0 : decode cX4_findBest 0 = .ok (.aload_n 0, 1) := by decide +kernel
theorem dX4_findBest_1 : decode cX4_findBest 1 = .ok (.getfield 41, 3) := by decide +kernel
theorem dX4_findBest_4 : decode cX4_findBest 4 = .ok (.aload_n 0, 1) := by decide +kernel
theorem dX4_findBest_5 : decode cX4_findBest 5 = .ok (.getfield 34, 3) := by decide +kernel
theorem dX4_findBest_8 : decode cX4_findBest 8 = .ok (.invokevirtual 277, 3) := by decide +kernel
theorem dX4_findBest_11 : decode cX4_findBest 11 = .ok (.aload_n 0, 1) := by decide +kernel
theorem dX4_findBest_12 : decode cX4_findBest 12 = .ok (.getfield 54, 3) := by decide +kernel
theorem dX4_findBest_15 : decode cX4_findBest 15 = .ok (.astore_n 1, 1) := by decide +kernel
theorem dX4_findBest_16 : decode cX4_findBest 16 = .ok (.aload_n 1, 1) := by decide +kernel
theorem dX4_findBest_17 : decode cX4_findBest 17 = .ok (.ifnull 20, 3) := by decide +kernel
theorem dX4_findBest_20 : decode cX4_findBest 20 = .ok (.aload_n 0, 1) := by decide +kernel
theorem dX4_findBest_21 : decode cX4_findBest 21 = .ok (.getfield 38, 3) := by decide +kernel
theorem dX4_findBest_24 : decode cX4_findBest 24 = .ok (.aload_n 0, 1) := by decide +kernel
theorem dX4_findBest_25 : decode cX4_findBest 25 = .ok (.getfield 34, 3) := by decide +kernel
theorem dX4_findBest_28 : decode cX4_findBest 28 = .ok (.invokevirtual 277, 3) := by decide +kernel
theorem dX4_findBest_31 : decode cX4_findBest 31 = .ok (.aload_n 0, 1) := by decide +kernel
theorem dX4_findBest_32 : decode cX4_findBest 32 = .ok (.aload_n 1, 1) := by decide +kernel
theorem dX4_findBest_33 : decode cX4_findBest 33 = .ok (.iconst 0, 1) := by decide +kernel
theorem dX4_findBest_34 : decode cX4_findBest 34 = .ok (.invokestatic 346, 3) := by decide +kernel
theorem dX4_findBest_37 : decode cX4_findBest 37 = .ok (.return_, 1) := by decide +kernel
theorem dX4_seekBest_0 : decode cX4_seekBest 0 = .ok (.aload_n 0, 1) := by decide +kernel
theorem dX4_seekBest_1 : decode cX4_seekBest 1 = .ok (.aload_n 0, 1) := by decide +kernel
theorem dX4_seekBest_2 : decode cX4_seekBest 2 = .ok (.getfield 38, 3) := by decide +kernel
theorem dX4_seekBest_5 : decode cX4_seekBest 5 = .ok (.aload_n 0, 1) := by decide +kernel
theorem dX4_seekBest_6 : decode cX4_seekBest 6 = .ok (.getfield 41, 3) := by decide +kernel
theorem dX4_seekBest_9 : decode cX4_seekBest 9 = .ok (.invokevirtual 350, 3) := by decide +kernel
theorem dX4_seekBest_12 : decode cX4_seekBest 12 = .ok (.ifCond .eq 14, 3) := by decide +kernel
theorem dX4_seekBest_15 : decode cX4_seekBest 15 = .ok (.aload_n 0, 1) := by decide +kernel
theorem dX4_seekBest_16 : decode cX4_seekBest 16 = .ok (.getfield 41, 3) := by decide +kernel
theorem dX4_seekBest_19 : decode cX4_seekBest 19 = .ok (.aload_n 0, 1) := by decide +kernel
theorem dX4_seekBest_20 : decode cX4_seekBest 20 = .ok (.getfield 38, 3) := by decide +kernel
theorem dX4_seekBest_23 : decode cX4_seekBest 23 = .ok (.invokevirtual 277, 3) := by decide +kernel
theorem dX4_seekBest_26 : decode cX4_seekBest 26 = .ok (.iload_n 2, 1) := by decide +kernel
theorem dX4_seekBest_27 : decode cX4_seekBest 27 = .ok (.bipush 6, 2) := by decide +kernel
theorem dX4_seekBest_29 : decode cX4_seekBest 29 = .ok (.if_icmp .ge 11, 3) := by decide +kernel
theorem dX4_seekBest_32 : decode cX4_seekBest 32 = .ok (.aload_n 0, 1) := by decide +kernel
theorem dX4_seekBest_33 : decode cX4_seekBest 33 = .ok (.aload_n 1, 1) := by decide +kernel
theorem dX4_seekBest_34 : decode cX4_seekBest 34 = .ok (.invokevirtual 354, 3) := by decide +kernel
theorem dX4_seekBest_37 : decode cX4_seekBest 37 = .ok (.ifCond .ne 4, 3) := by decide +kernel
theorem dX4_seekBest_40 : decode cX4_seekBest 40 = .ok (.return_, 1) := by decide +kernel
theorem dX4_seekBest_41 : decode cX4_seekBest 41 = .ok (.iconst 0, 1) := by decide +kernel
theorem dX4_seekBest_42 : decode cX4_seekBest 42 = .ok (.istore_n 3, 1) := by decide +kernel
theorem dX4_seekBest_43 : decode cX4_seekBest 43 = .ok (.iload_n 3, 1) := by decide +kernel
theorem dX4_seekBest_44 : decode cX4_seekBest 44 = .ok (.aload_n 0, 1) := by decide +kernel
theorem dX4_seekBest_45 : decode cX4_seekBest 45 = .ok (.getfield 48, 3) := by decide +kernel
theorem dX4_seekBest_48 : decode cX4_seekBest 48 = .ok (.if_icmp .ge 49, 3) := by decide +kernel
theorem dX4_seekBest_51 : decode cX4_seekBest 51 = .ok (.aload_n 0, 1) := by decide +kernel
theorem dX4_seekBest_52 : decode cX4_seekBest 52 = .ok (.aload_n 0, 1) := by decide +kernel
theorem dX4_seekBest_53 : decode cX4_seekBest 53 = .ok (.getfield 38, 3) := by decide +kernel
theorem dX4_seekBest_56 : decode cX4_seekBest 56 = .ok (.iload_n 3, 1) := by decide +kernel
theorem dX4_seekBest_57 : decode cX4_seekBest 57 = .ok (.invokevirtual 224, 3) := by decide +kernel
theorem dX4_seekBest_60 : decode cX4_seekBest 60 = .ok (.bipush 45, 2) := by decide +kernel
theorem dX4_seekBest_62 : decode cX4_seekBest 62 = .ok (.if_icmp .ne 29, 3) := by decide +kernel
theorem dX4_seekBest_65 : decode cX4_seekBest 65 = .ok (.aload_n 0, 1) := by decide +kernel
theorem dX4_seekBest_66 : decode cX4_seekBest 66 = .ok (.aload_n 0, 1) := by decide +kernel
theorem dX4_seekBest_67 : decode cX4_seekBest 67 = .ok (.getfield 38, 3) := by decide +kernel
theorem dX4_seekBest_70 : decode cX4_seekBest 70 = .ok (.iload_n 3, 1) := by decide +kernel
theorem dX4_seekBest_71 : decode cX4_seekBest 71 = .ok (.aload_n 1, 1) := by decide +kernel
theorem dX4_seekBest_72 : decode cX4_seekBest 72 = .ok (.invokevirtual 230, 3) := by decide +kernel
theorem dX4_seekBest_75 : decode cX4_seekBest 75 = .ok (.aload_n 0, 1) := by decide +kernel
theorem dX4_seekBest_76 : decode cX4_seekBest 76 = .ok (.aload_n 1, 1) := by decide +kernel
theorem dX4_seekBest_77 : decode cX4_seekBest 77 = .ok (.iload_n 2, 1) := by decide +kernel
theorem dX4_seekBest_78 : decode cX4_seekBest 78 = .ok (.iconst 1, 1) := by decide +kernel
theorem dX4_seekBest_79 : decode cX4_seekBest 79 = .ok (.iadd, 1) := by decide +kernel
theorem dX4_seekBest_80 : decode cX4_seekBest 80 = .ok (.invokestatic 346, 3) := by decide +kernel
theorem dX4_seekBest_83 : decode cX4_seekBest 83 = .ok (.aload_n 0, 1) := by decide +kernel
theorem dX4_seekBest_84 : decode cX4_seekBest 84 = .ok (.aload_n 0, 1) := by decide +kernel
theorem dX4_seekBest_85 : decode cX4_seekBest 85 = .ok (.getfield 38, 3) := by decide +kernel
theorem dX4_seekBest_88 : decode cX4_seekBest 88 = .ok (.invokevirtual 243, 3) := by decide +kernel
theorem dX4_seekBest_91 : decode cX4_seekBest 91 = .ok (.iinc 3 1, 3) := by decide +kernel
theorem dX4_seekBest_94 : decode cX4_seekBest 94 = .ok (.goto (-51), 3) := by decide +kernel
theorem dX4_seekBest_97 : decode cX4_seekBest 97 = .ok (.return_, 1) := by decide +kernel
theorem dX4_isBetter_0 : decode cX4_isBetter 0 = .ok (.aload_n 1, 1) := by decide +kernel
theorem dX4_isBetter_1 : decode cX4_isBetter 1 = .ok (.getfield 273, 3) := by decide +kernel
theorem dX4_isBetter_4 : decode cX4_isBetter 4 = .ok (.aload_n 2, 1) := by decide +kernel
theorem dX4_isBetter_5 : decode cX4_isBetter 5 = .ok (.getfield 273, 3) := by decide +kernel
theorem dX4_isBetter_8 : decode cX4_isBetter 8 = .ok (.if_icmp .eq 20, 3) := by decide +kernel
theorem dX4_isBetter_11 : decode cX4_isBetter 11 = .ok (.aload_n 1, 1) := by decide +kernel
theorem dX4_isBetter_12 : decode cX4_isBetter 12 = .ok (.getfield 273, 3) := by decide +kernel
theorem dX4_isBetter_15 : decode cX4_isBetter 15 = .ok (.aload_n 2, 1) := by decide +kernel
theorem dX4_isBetter_16 : decode cX4_isBetter 16 = .ok (.getfield 273, 3) := by decide +kernel
theorem dX4_isBetter_19 : decode cX4_isBetter 19 = .ok (.if_icmp .le 7, 3) := by decide +kernel
theorem dX4_isBetter_22 : decode cX4_isBetter 22 = .ok (.iconst 1, 1) := by decide +kernel
theorem dX4_isBetter_23 : decode cX4_isBetter 23 = .ok (.goto 4, 3) := by decide +kernel
theorem dX4_isBetter_26 : decode cX4_isBetter 26 = .ok (.iconst 0, 1) := by decide +kernel
theorem dX4_isBetter_27 : decode cX4_isBetter 27 = .ok (.ireturn, 1) := by decide +kernel
theorem dX4_isBetter_28 : decode cX4_isBetter 28 = .ok (.aload_n 1, 1) := by decide +kernel
theorem dX4_isBetter_29 : decode cX4_isBetter 29 = .ok (.invokevirtual 234, 3) := by decide +kernel
theorem dX4_isBetter_32 : decode cX4_isBetter 32 = .ok (.aload_n 2, 1) := by decide +kernel
theorem dX4_isBetter_33 : decode cX4_isBetter 33 = .ok (.invokevirtual 234, 3) := by decide +kernel
theorem dX4_isBetter_36 : decode cX4_isBetter 36 = .ok (.if_icmp .eq 20, 3) := by decide +kernel
theorem dX4_isBetter_39 : decode cX4_isBetter 39 = .ok (.aload_n 1, 1) := by decide +kernel
theorem dX4_isBetter_40 : decode cX4_isBetter 40 = .ok (.invokevirtual 234, 3) := by decide +kernel
theorem dX4_isBetter_43 : decode cX4_isBetter 43 = .ok (.aload_n 2, 1) := by decide +kernel
theorem dX4_isBetter_44 : decode cX4_isBetter 44 = .ok (.invokevirtual 234, 3) := by decide +kernel
theorem dX4_isBetter_47 : decode cX4_isBetter 47 = .ok (.if_icmp .ge 7, 3) := by decide +kernel
theorem dX4_isBetter_50 : decode cX4_isBetter 50 = .ok (.iconst 1, 1) := by decide +kernel
theorem dX4_isBetter_51 : decode cX4_isBetter 51 = .ok (.goto 4, 3) := by decide +kernel
theorem dX4_isBetter_54 : decode cX4_isBetter 54 = .ok (.iconst 0, 1) := by decide +kernel
theorem dX4_isBetter_55 : decode cX4_isBetter 55 = .ok (.ireturn, 1) := by decide +kernel
theorem dX4_isBetter_56 : decode cX4_isBetter 56 = .ok (.aload_n 0, 1) := by decide +kernel
theorem dX4_isBetter_57 : decode cX4_isBetter 57 = .ok (.aload_n 1, 1) := by decide +kernel
theorem dX4_isBetter_58 : decode cX4_isBetter 58 = .ok (.invokevirtual 262, 3) := by decide +kernel
theorem dX4_isBetter_61 : decode cX4_isBetter 61 = .ok (.aload_n 0, 1) := by decide +kernel
theorem dX4_isBetter_62 : decode cX4_isBetter 62 = .ok (.aload_n 2, 1) := by decide +kernel
theorem dX4_isBetter_63 : decode cX4_isBetter 63 = .ok (.invokevirtual 262, 3) := by decide +kernel
theorem dX4_isBetter_66 : decode cX4_isBetter 66 = .ok (.if_icmp .ge 7, 3) := by decide +kernel
theorem dX4_isBetter_69 : decode cX4_isBetter 69 = .ok (.iconst 1, 1) := by decide +kernel
theorem dX4_isBetter_70 : decode cX4_isBetter 70 = .ok (.goto 4, 3) := by decide +kernel
theorem dX4_isBetter_73 : decode cX4_isBetter 73 = .ok (.iconst 0, 1) := by decide +kernel
theorem dX4_isBetter_74 : decode cX4_isBetter 74 = .ok (.ireturn, 1) := by decide +kernel
theorem dX4_mayLeadToBetter_0 : decode cX4_mayLeadToBetter 0 = .ok (.aload_n 0, 1) := by decide +kernel
theorem dX4_mayLeadToBetter_1 : decode cX4_mayLeadToBetter 1 = .ok (.getfield 38, 3) := by decide +kernel
theorem dX4_mayLeadToBetter_4 : decode cX4_mayLeadToBetter 4 = .ok (.getfield 273, 3) := by decide +kernel
theorem dX4_mayLeadToBetter_7 : decode cX4_mayLeadToBetter 7 = .ok (.istore_n 2, 1) := by decide +kernel
theorem dX4_mayLeadToBetter_8 : decode cX4_mayLeadToBetter 8 = .ok (.aload_n 0, 1) := by decide +kernel
theorem dX4_mayLeadToBetter_9 : decode cX4_mayLeadToBetter 9 = .ok (.getfield 38, 3) := by decide +kernel
theorem dX4_mayLeadToBetter_12 : decode cX4_mayLeadToBetter 12 = .ok (.invokevirtual 234, 3) := by decide +kernel
theorem dX4_mayLeadToBetter_15 : decode cX4_mayLeadToBetter 15 = .ok (.istore_n 3, 1) := by decide +kernel
theorem dX4_mayLeadToBetter_16 : decode cX4_mayLeadToBetter 16 = .ok (.iconst 0, 1) := by decide +kernel
theorem dX4_mayLeadToBetter_17 : decode cX4_mayLeadToBetter 17 = .ok (.istore 4, 2) := by decide +kernel
theorem dX4_mayLeadToBetter_19 : decode cX4_mayLeadToBetter 19 = .ok (.iload 4, 2) := by decide +kernel
theorem dX4_mayLeadToBetter_21 : decode cX4_mayLeadToBetter 21 = .ok (.aload_n 0, 1) := by decide +kernel
theorem dX4_mayLeadToBetter_22 : decode cX4_mayLeadToBetter 22 = .ok (.getfield 48, 3) := by decide +kernel
theorem dX4_mayLeadToBetter_25 : decode cX4_mayLeadToBetter 25 = .ok (.if_icmp .ge 65, 3) := by decide +kernel
theorem dX4_mayLeadToBetter_28 : decode cX4_mayLeadToBetter 28 = .ok (.iload 4, 2) := by decide +kernel
theorem dX4_mayLeadToBetter_30 : decode cX4_mayLeadToBetter 30 = .ok (.aload_n 0, 1) := by decide +kernel
theorem dX4_mayLeadToBetter_31 : decode cX4_mayLeadToBetter 31 = .ok (.getfield 38, 3) := by decide +kernel
theorem dX4_mayLeadToBetter_34 : decode cX4_mayLeadToBetter 34 = .ok (.getfield 307, 3) := by decide +kernel
theorem dX4_mayLeadToBetter_37 : decode cX4_mayLeadToBetter 37 = .ok (.invokestatic 140, 3) := by decide +kernel
theorem dX4_mayLeadToBetter_40 : decode cX4_mayLeadToBetter 40 = .ok (.ifCond .ne 44, 3) := by decide +kernel
theorem dX4_mayLeadToBetter_43 : decode cX4_mayLeadToBetter 43 = .ok (.aload_n 0, 1) := by decide +kernel
theorem dX4_mayLeadToBetter_44 : decode cX4_mayLeadToBetter 44 = .ok (.aload_n 0, 1) := by decide +kernel
theorem dX4_mayLeadToBetter_45 : decode cX4_mayLeadToBetter 45 = .ok (.getfield 17, 3) := by decide +kernel
theorem dX4_mayLeadToBetter_48 : decode cX4_mayLeadToBetter 48 = .ok (.iload 4, 2) := by decide +kernel
theorem dX4_mayLeadToBetter_50 : decode cX4_mayLeadToBetter 50 = .ok (.aaload, 1) := by decide +kernel
theorem dX4_mayLeadToBetter_51 : decode cX4_mayLeadToBetter 51 = .ok (.aload_n 1, 1) := by decide +kernel
theorem dX4_mayLeadToBetter_52 : decode cX4_mayLeadToBetter 52 = .ok (.invokevirtual 357, 3) := by decide +kernel
theorem dX4_mayLeadToBetter_55 : decode cX4_mayLeadToBetter 55 = .ok (.ifCond .eq 29, 3) := by decide +kernel
theorem dX4_mayLeadToBetter_58 : decode cX4_mayLeadToBetter 58 = .ok (.iload_n 2, 1) := by decide +kernel
theorem dX4_mayLeadToBetter_59 : decode cX4_mayLeadToBetter 59 = .ok (.aload_n 0, 1) := by decide +kernel
theorem dX4_mayLeadToBetter_60 : decode cX4_mayLeadToBetter 60 = .ok (.getfield 17, 3) := by decide +kernel
theorem dX4_mayLeadToBetter_63 : decode cX4_mayLeadToBetter 63 = .ok (.iload 4, 2) := by decide +kernel
theorem dX4_mayLeadToBetter_65 : decode cX4_mayLeadToBetter 65 = .ok (.aaload, 1) := by decide +kernel
theorem dX4_mayLeadToBetter_66 : decode cX4_mayLeadToBetter 66 = .ok (.getfield 101, 3) := by decide +kernel
theorem dX4_mayLeadToBetter_69 : decode cX4_mayLeadToBetter 69 = .ok (.iadd, 1) := by decide +kernel
theorem dX4_mayLeadToBetter_70 : decode cX4_mayLeadToBetter 70 = .ok (.istore_n 2, 1) := by decide +kernel
theorem dX4_mayLeadToBetter_71 : decode cX4_mayLeadToBetter 71 = .ok (.iload_n 3, 1) := by decide +kernel
theorem dX4_mayLeadToBetter_72 : decode cX4_mayLeadToBetter 72 = .ok (.aload_n 0, 1) := by decide +kernel
theorem dX4_mayLeadToBetter_73 : decode cX4_mayLeadToBetter 73 = .ok (.getfield 17, 3) := by decide +kernel
theorem dX4_mayLeadToBetter_76 : decode cX4_mayLeadToBetter 76 = .ok (.iload 4, 2) := by decide +kernel
theorem dX4_mayLeadToBetter_78 : decode cX4_mayLeadToBetter 78 = .ok (.aaload, 1) := by decide +kernel
theorem dX4_mayLeadToBetter_79 : decode cX4_mayLeadToBetter 79 = .ok (.getfield 98, 3) := by decide +kernel
theorem dX4_mayLeadToBetter_82 : decode cX4_mayLeadToBetter 82 = .ok (.iadd, 1) := by decide +kernel
theorem dX4_mayLeadToBetter_83 : decode cX4_mayLeadToBetter 83 = .ok (.istore_n 3, 1) := by decide +kernel
theorem dX4_mayLeadToBetter_84 : decode cX4_mayLeadToBetter 84 = .ok (.iinc 4 1, 3) := by decide +kernel
theorem dX4_mayLeadToBetter_87 : decode cX4_mayLeadToBetter 87 = .ok (.goto (-68), 3) := by decide +kernel
theorem dX4_mayLeadToBetter_90 : decode cX4_mayLeadToBetter 90 = .ok (.iload_n 2, 1) := by decide +kernel
theorem dX4_mayLeadToBetter_91 : decode cX4_mayLeadToBetter 91 = .ok (.aload_n 0, 1) := by decide +kernel
theorem dX4_mayLeadToBetter_92 : decode cX4_mayLeadToBetter 92 = .ok (.getfield 41, 3) := by decide +kernel
theorem dX4_mayLeadToBetter_95 : decode cX4_mayLeadToBetter 95 = .ok (.getfield 273, 3) := by decide +kernel
theorem dX4_mayLeadToBetter_98 : decode cX4_mayLeadToBetter 98 = .ok (.if_icmp .eq 20, 3) := by decide +kernel
theorem dX4_mayLeadToBetter_101 : decode cX4_mayLeadToBetter 101 = .ok (.iload_n 2, 1) := by decide +kernel
theorem dX4_mayLeadToBetter_102 : decode cX4_mayLeadToBetter 102 = .ok (.aload_n 0, 1) := by decide +kernel
theorem dX4_mayLeadToBetter_103 : decode cX4_mayLeadToBetter 103 = .ok (.getfield 41, 3) := by decide +kernel
theorem dX4_mayLeadToBetter_106 : decode cX4_mayLeadToBetter 106 = .ok (.getfield 273, 3) := by decide +kernel
theorem dX4_mayLeadToBetter_109 : decode cX4_mayLeadToBetter 109 = .ok (.if_icmp .le 7, 3) := by decide +kernel
theorem dX4_mayLeadToBetter_112 : decode cX4_mayLeadToBetter 112 = .ok (.iconst 1, 1) := by decide +kernel
theorem dX4_mayLeadToBetter_113 : decode cX4_mayLeadToBetter 113 = .ok (.goto 4, 3) := by decide +kernel
theorem dX4_mayLeadToBetter_116 : decode cX4_mayLeadToBetter 116 = .ok (.iconst 0, 1) := by decide +kernel
theorem dX4_mayLeadToBetter_117 : decode cX4_mayLeadToBetter 117 = .ok (.ireturn, 1) := by decide +kernel
theorem dX4_mayLeadToBetter_118 : decode cX4_mayLeadToBetter 118 = .ok (.iload_n 3, 1) := by decide +kernel
theorem dX4_mayLeadToBetter_119 : decode cX4_mayLeadToBetter 119 = .ok (.aload_n 0, 1) := by decide +kernel
theorem dX4_mayLeadToBetter_120 : decode cX4_mayLeadToBetter 120 = .ok (.getfield 41, 3) := by decide +kernel
theorem dX4_mayLeadToBetter_123 : decode cX4_mayLeadToBetter 123 = .ok (.invokevirtual 234, 3) := by decide +kernel
theorem dX4_mayLeadToBetter_126 : decode cX4_mayLeadToBetter 126 = .ok (.if_icmp .gt 7, 3) := by decide +kernel
theorem dX4_mayLeadToBetter_129 : decode cX4_mayLeadToBetter 129 = .ok (.iconst 1, 1) := by decide +kernel
theorem dX4_mayLeadToBetter_130 : decode cX4_mayLeadToBetter 130 = .ok (.goto 4, 3) := by decide +kernel
theorem dX4_mayLeadToBetter_133 : decode cX4_mayLeadToBetter 133 = .ok (.iconst 0, 1) := by decide +kernel
theorem dX4_mayLeadToBetter_134 : decode cX4_mayLeadToBetter 134 = .ok (.ireturn, 1) := by decide +kernel
theorem dX4_mayComeLater_0 : decode cX4_mayComeLater 0 = .ok (.aload_n 0, 1) := by decide +kernel
theorem dX4_mayComeLater_1 : decode cX4_mayComeLater 1 = .ok (.getfield 38, 3) := by decide +kernel
theorem dX4_mayComeLater_4 : decode cX4_mayComeLater 4 = .ok (.invokevirtual 234, 3) := by decide +kernel
theorem dX4_mayComeLater_7 : decode cX4_mayComeLater 7 = .ok (.aload_n 0, 1) := by decide +kernel
theorem dX4_mayComeLater_8 : decode cX4_mayComeLater 8 = .ok (.getfield 27, 3) := by decide +kernel
theorem dX4_mayComeLater_11 : decode cX4_mayComeLater 11 = .ok (.aload_n 1, 1) := by decide +kernel
theorem dX4_mayComeLater_12 : decode cX4_mayComeLater 12 = .ok (.getfield 104, 3) := by decide +kernel
theorem dX4_mayComeLater_15 : decode cX4_mayComeLater 15 = .ok (.iaload, 1) := by decide +kernel
theorem dX4_mayComeLater_16 : decode cX4_mayComeLater 16 = .ok (.invokestatic 323, 3) := by decide +kernel
theorem dX4_mayComeLater_19 : decode cX4_mayComeLater 19 = .ok (.istore_n 3, 1) := by decide +kernel
theorem dX4_mayComeLater_20 : decode cX4_mayComeLater 20 = .ok (.aload_n 1, 1) := by decide +kernel
theorem dX4_mayComeLater_21 : decode cX4_mayComeLater 21 = .ok (.invokevirtual 312, 3) := by decide +kernel
theorem dX4_mayComeLater_24 : decode cX4_mayComeLater 24 = .ok (.ifCond .eq 44, 3) := by decide +kernel
theorem dX4_mayComeLater_27 : decode cX4_mayComeLater 27 = .ok (.aload_n 1, 1) := by decide +kernel
theorem dX4_mayComeLater_28 : decode cX4_mayComeLater 28 = .ok (.getfield 98, 3) := by decide +kernel
theorem dX4_mayComeLater_31 : decode cX4_mayComeLater 31 = .ok (.aload_n 2, 1) := by decide +kernel
theorem dX4_mayComeLater_32 : decode cX4_mayComeLater 32 = .ok (.getfield 177, 3) := by decide +kernel
theorem dX4_mayComeLater_35 : decode cX4_mayComeLater 35 = .ok (.if_icmp .gt 33, 3) := by decide +kernel
theorem dX4_mayComeLater_38 : decode cX4_mayComeLater 38 = .ok (.iload_n 3, 1) := by decide +kernel
theorem dX4_mayComeLater_39 : decode cX4_mayComeLater 39 = .ok (.aload_n 1, 1) := by decide +kernel
theorem dX4_mayComeLater_40 : decode cX4_mayComeLater 40 = .ok (.getfield 98, 3) := by decide +kernel
theorem dX4_mayComeLater_43 : decode cX4_mayComeLater 43 = .ok (.iadd, 1) := by decide +kernel
theorem dX4_mayComeLater_44 : decode cX4_mayComeLater 44 = .ok (.aload_n 2, 1) := by decide +kernel
theorem dX4_mayComeLater_45 : decode cX4_mayComeLater 45 = .ok (.getfield 183, 3) := by decide +kernel
theorem dX4_mayComeLater_48 : decode cX4_mayComeLater 48 = .ok (.if_icmp .gt 20, 3) := by decide +kernel
theorem dX4_mayComeLater_51 : decode cX4_mayComeLater 51 = .ok (.aload_n 0, 1) := by decide +kernel
theorem dX4_mayComeLater_52 : decode cX4_mayComeLater 52 = .ok (.aload_n 0, 1) := by decide +kernel
theorem dX4_mayComeLater_53 : decode cX4_mayComeLater 53 = .ok (.getfield 38, 3) := by decide +kernel
theorem dX4_mayComeLater_56 : decode cX4_mayComeLater 56 = .ok (.aload_n 1, 1) := by decide +kernel
theorem dX4_mayComeLater_57 : decode cX4_mayComeLater 57 = .ok (.aload_n 2, 1) := by decide +kernel
theorem dX4_mayComeLater_58 : decode cX4_mayComeLater 58 = .ok (.invokevirtual 315, 3) := by decide +kernel
theorem dX4_mayComeLater_61 : decode cX4_mayComeLater 61 = .ok (.ifCond .ne 7, 3) := by decide +kernel
theorem dX4_mayComeLater_64 : decode cX4_mayComeLater 64 = .ok (.iconst 1, 1) := by decide +kernel
theorem dX4_mayComeLater_65 : decode cX4_mayComeLater 65 = .ok (.goto 4, 3) := by decide +kernel
theorem dX4_mayComeLater_68 : decode cX4_mayComeLater 68 = .ok (.iconst 0, 1) := by decide +kernel
theorem dX4_mayComeLater_69 : decode cX4_mayComeLater 69 = .ok (.ireturn, 1) := by decide +kernel
theorem dX4_tryAllCompletions_0 : decode cX4_tryAllCompletions 0 = .ok (.aload_n 0, 1) := by decide +kernel
theorem dX4_tryAllCompletions_1 : decode cX4_tryAllCompletions 1 = .ok (.iconst 0, 1) := by decide +kernel
theorem dX4_tryAllCompletions_2 : decode cX4_tryAllCompletions 2 = .ok (.putfield 58, 3) := by decide +kernel
theorem dX4_tryAllCompletions_5 : decode cX4_tryAllCompletions 5 = .ok (.aload_n 0, 1) := by decide +kernel
theorem dX4_tryAllCompletions_6 : decode cX4_tryAllCompletions 6 = .ok (.iconst 0, 1) := by decide +kernel
theorem dX4_tryAllCompletions_7 : decode cX4_tryAllCompletions 7 = .ok (.putfield 61, 3) := by decide +kernel
theorem dX4_tryAllCompletions_10 : decode cX4_tryAllCompletions 10 = .ok (.aload_n 0, 1) := by decide +kernel
theorem dX4_tryAllCompletions_11 : decode cX4_tryAllCompletions 11 = .ok (.getfield 38, 3) := by decide +kernel
theorem dX4_tryAllCompletions_14 : decode cX4_tryAllCompletions 14 = .ok (.aload_n 0, 1) := by decide +kernel
theorem dX4_tryAllCompletions_15 : decode cX4_tryAllCompletions 15 = .ok (.getfield 34, 3) := by decide +kernel
theorem dX4_tryAllCompletions_18 : decode cX4_tryAllCompletions 18 = .ok (.invokevirtual 277, 3) := by decide +kernel
theorem dX4_tryAllCompletions_21 : decode cX4_tryAllCompletions 21 = .ok (.aload_n 0, 1) := by decide +kernel
theorem dX4_tryAllCompletions_22 : decode cX4_tryAllCompletions 22 = .ok (.iconst 0, 1) := by decide +kernel
theorem dX4_tryAllCompletions_23 : decode cX4_tryAllCompletions 23 = .ok (.invokestatic 361, 3) := by decide +kernel
theorem dX4_tryAllCompletions_26 : decode cX4_tryAllCompletions 26 = .ok (.return_, 1) := by decide +kernel
theorem dX4_tryAllFrom_0 : decode cX4_tryAllFrom 0 = .ok (.aload_n 0, 1) := by decide +kernel
theorem dX4_tryAllFrom_1 : decode cX4_tryAllFrom 1 = .ok (.dup, 1) := by decide +kernel
theorem dX4_tryAllFrom_2 : decode cX4_tryAllFrom 2 = .ok (.getfield 58, 3) := by decide +kernel
theorem dX4_tryAllFrom_5 : decode cX4_tryAllFrom 5 = .ok (.iconst 1, 1) := by decide +kernel
theorem dX4_tryAllFrom_6 : decode cX4_tryAllFrom 6 = .ok (.iadd, 1) := by decide +kernel
theorem dX4_tryAllFrom_7 : decode cX4_tryAllFrom 7 = .ok (.putfield 58, 3) := by decide +kernel
theorem dX4_tryAllFrom_10 : decode cX4_tryAllFrom 10 = .ok (.aload_n 0, 1) := by decide +kernel
theorem dX4_tryAllFrom_11 : decode cX4_tryAllFrom 11 = .ok (.aload_n 0, 1) := by decide +kernel
theorem dX4_tryAllFrom_12 : decode cX4_tryAllFrom 12 = .ok (.getfield 61, 3) := by decide +kernel
theorem dX4_tryAllFrom_15 : decode cX4_tryAllFrom 15 = .ok (.aload_n 0, 1) := by decide +kernel
theorem dX4_tryAllFrom_16 : decode cX4_tryAllFrom 16 = .ok (.getfield 38, 3) := by decide +kernel
theorem dX4_tryAllFrom_19 : decode cX4_tryAllFrom 19 = .ok (.getfield 273, 3) := by decide +kernel
theorem dX4_tryAllFrom_22 : decode cX4_tryAllFrom 22 = .ok (.invokestatic 323, 3) := by decide +kernel
theorem dX4_tryAllFrom_25 : decode cX4_tryAllFrom 25 = .ok (.putfield 61, 3) := by decide +kernel
theorem dX4_tryAllFrom_28 : decode cX4_tryAllFrom 28 = .ok (.aload_n 0, 1) := by decide +kernel
theorem dX4_tryAllFrom_29 : decode cX4_tryAllFrom 29 = .ok (.getfield 54, 3) := by decide +kernel
theorem dX4_tryAllFrom_32 : decode cX4_tryAllFrom 32 = .ok (.astore_n 2, 1) := by decide +kernel
theorem dX4_tryAllFrom_33 : decode cX4_tryAllFrom 33 = .ok (.iload_n 1, 1) := by decide +kernel
theorem dX4_tryAllFrom_34 : decode cX4_tryAllFrom 34 = .ok (.bipush 6, 2) := by decide +kernel
theorem dX4_tryAllFrom_36 : decode cX4_tryAllFrom 36 = .ok (.if_icmp .ge 7, 3) := by decide +kernel
theorem dX4_tryAllFrom_39 : decode cX4_tryAllFrom 39 = .ok (.aload_n 2, 1) := by decide +kernel
theorem dX4_tryAllFrom_40 : decode cX4_tryAllFrom 40 = .ok (.ifnonnull 4, 3) := by decide +kernel
theorem dX4_tryAllFrom_43 : decode cX4_tryAllFrom 43 = .ok (.return_, 1) := by decide +kernel
theorem dX4_tryAllFrom_44 : decode cX4_tryAllFrom 44 = .ok (.iconst 0, 1) := by decide +kernel
theorem dX4_tryAllFrom_45 : decode cX4_tryAllFrom 45 = .ok (.istore_n 3, 1) := by decide +kernel
theorem dX4_tryAllFrom_46 : decode cX4_tryAllFrom 46 = .ok (.iload_n 3, 1) := by decide +kernel
theorem dX4_tryAllFrom_47 : decode cX4_tryAllFrom 47 = .ok (.aload_n 0, 1) := by decide +kernel
theorem dX4_tryAllFrom_48 : decode cX4_tryAllFrom 48 = .ok (.getfield 48, 3) := by decide +kernel
theorem dX4_tryAllFrom_51 : decode cX4_tryAllFrom 51 = .ok (.if_icmp .ge 48, 3) := by decide +kernel
theorem dX4_tryAllFrom_54 : decode cX4_tryAllFrom 54 = .ok (.aload_n 0, 1) := by decide +kernel
theorem dX4_tryAllFrom_55 : decode cX4_tryAllFrom 55 = .ok (.aload_n 0, 1) := by decide +kernel
theorem dX4_tryAllFrom_56 : decode cX4_tryAllFrom 56 = .ok (.getfield 38, 3) := by decide +kernel
theorem dX4_tryAllFrom_59 : decode cX4_tryAllFrom 59 = .ok (.iload_n 3, 1) := by decide +kernel
theorem dX4_tryAllFrom_60 : decode cX4_tryAllFrom 60 = .ok (.invokevirtual 224, 3) := by decide +kernel
theorem dX4_tryAllFrom_63 : decode cX4_tryAllFrom 63 = .ok (.bipush 45, 2) := by decide +kernel
theorem dX4_tryAllFrom_65 : decode cX4_tryAllFrom 65 = .ok (.if_icmp .ne 28, 3) := by decide +kernel
theorem dX4_tryAllFrom_68 : decode cX4_tryAllFrom 68 = .ok (.aload_n 0, 1) := by decide +kernel
theorem dX4_tryAllFrom_69 : decode cX4_tryAllFrom 69 = .ok (.aload_n 0, 1) := by decide +kernel
theorem dX4_tryAllFrom_70 : decode cX4_tryAllFrom 70 = .ok (.getfield 38, 3) := by decide +kernel
theorem dX4_tryAllFrom_73 : decode cX4_tryAllFrom 73 = .ok (.iload_n 3, 1) := by decide +kernel
theorem dX4_tryAllFrom_74 : decode cX4_tryAllFrom 74 = .ok (.aload_n 2, 1) := by decide +kernel
theorem dX4_tryAllFrom_75 : decode cX4_tryAllFrom 75 = .ok (.invokevirtual 230, 3) := by decide +kernel
theorem dX4_tryAllFrom_78 : decode cX4_tryAllFrom 78 = .ok (.aload_n 0, 1) := by decide +kernel
theorem dX4_tryAllFrom_79 : decode cX4_tryAllFrom 79 = .ok (.iload_n 1, 1) := by decide +kernel
theorem dX4_tryAllFrom_80 : decode cX4_tryAllFrom 80 = .ok (.iconst 1, 1) := by decide +kernel
theorem dX4_tryAllFrom_81 : decode cX4_tryAllFrom 81 = .ok (.iadd, 1) := by decide +kernel
theorem dX4_tryAllFrom_82 : decode cX4_tryAllFrom 82 = .ok (.invokestatic 361, 3) := by decide +kernel
theorem dX4_tryAllFrom_85 : decode cX4_tryAllFrom 85 = .ok (.aload_n 0, 1) := by decide +kernel
theorem dX4_tryAllFrom_86 : decode cX4_tryAllFrom 86 = .ok (.aload_n 0, 1) := by decide +kernel
theorem dX4_tryAllFrom_87 : decode cX4_tryAllFrom 87 = .ok (.getfield 38, 3) := by decide +kernel
theorem dX4_tryAllFrom_90 : decode cX4_tryAllFrom 90 = .ok (.invokevirtual 243, 3) := by decide +kernel
theorem dX4_tryAllFrom_93 : decode cX4_tryAllFrom 93 = .ok (.iinc 3 1, 3) := by decide +kernel
theorem dX4_tryAllFrom_96 : decode cX4_tryAllFrom 96 = .ok (.goto (-50), 3) := by decide +kernel
theorem dX4_tryAllFrom_99 : decode cX4_tryAllFrom 99 = .ok (.return_, 1) := by decide +kernel
theorem dX4_noPointOverloaded_0 : decode cX4_noPointOverloaded 0 = .ok (.iconst 0, 1) := by decide +kernel
theorem dX4_noPointOverloaded_1 : decode cX4_noPointOverloaded 1 = .ok (.istore_n 2, 1) := by decide +kernel
theorem dX4_noPointOverloaded_2 : decode cX4_noPointOverloaded 2 = .ok (.iload_n 2, 1) := by decide +kernel
theorem dX4_noPointOverloaded_3 : decode cX4_noPointOverloaded 3 = .ok (.aload_n 0, 1) := by decide +kernel
theorem dX4_noPointOverloaded_4 : decode cX4_noPointOverloaded 4 = .ok (.getfield 44, 3) := by decide +kernel
theorem dX4_noPointOverloaded_7 : decode cX4_noPointOverloaded 7 = .ok (.if_icmp .ge 20, 3) := by decide +kernel
theorem dX4_noPointOverloaded_10 : decode cX4_noPointOverloaded 10 = .ok (.aload_n 0, 1) := by decide +kernel
theorem dX4_noPointOverloaded_11 : decode cX4_noPointOverloaded 11 = .ok (.iload_n 2, 1) := by decide +kernel
theorem dX4_noPointOverloaded_12 : decode cX4_noPointOverloaded 12 = .ok (.aload_n 1, 1) := by decide +kernel
theorem dX4_noPointOverloaded_13 : decode cX4_noPointOverloaded 13 = .ok (.invokevirtual 282, 3) := by decide +kernel
theorem dX4_noPointOverloaded_16 : decode cX4_noPointOverloaded 16 = .ok (.ifCond .ge 5, 3) := by decide +kernel
theorem dX4_noPointOverloaded_19 : decode cX4_noPointOverloaded 19 = .ok (.iconst 0, 1) := by decide +kernel
theorem dX4_noPointOverloaded_20 : decode cX4_noPointOverloaded 20 = .ok (.ireturn, 1) := by decide +kernel
theorem dX4_noPointOverloaded_21 : decode cX4_noPointOverloaded 21 = .ok (.iinc 2 1, 3) := by decide +kernel
theorem dX4_noPointOverloaded_24 : decode cX4_noPointOverloaded 24 = .ok (.goto (-22), 3) := by decide +kernel
theorem dX4_noPointOverloaded_27 : decode cX4_noPointOverloaded 27 = .ok (.iconst 1, 1) := by decide +kernel
theorem dX4_noPointOverloaded_28 : decode cX4_noPointOverloaded 28 = .ok (.ireturn, 1) := by decide +kernel
theorem dX4_needsHungBefore_0 : decode cX4_needsHungBefore 0 = .ok (.iconst 0, 1) := by decide +kernel
theorem dX4_needsHungBefore_1 : decode cX4_needsHungBefore 1 = .ok (.istore_n 1, 1) := by decide +kernel
theorem dX4_needsHungBefore_2 : decode cX4_needsHungBefore 2 = .ok (.iconst 0, 1) := by decide +kernel
theorem dX4_needsHungBefore_3 : decode cX4_needsHungBefore 3 = .ok (.istore_n 2, 1) := by decide +kernel
theorem dX4_needsHungBefore_4 : decode cX4_needsHungBefore 4 = .ok (.iload_n 2, 1) := by decide +kernel
theorem dX4_needsHungBefore_5 : decode cX4_needsHungBefore 5 = .ok (.aload_n 0, 1) := by decide +kernel
theorem dX4_needsHungBefore_6 : decode cX4_needsHungBefore 6 = .ok (.getfield 34, 3) := by decide +kernel
theorem dX4_needsHungBefore_9 : decode cX4_needsHungBefore 9 = .ok (.getfield 200, 3) := by decide +kernel
theorem dX4_needsHungBefore_12 : decode cX4_needsHungBefore 12 = .ok (.if_icmp .ge 43, 3) := by decide +kernel
theorem dX4_needsHungBefore_15 : decode cX4_needsHungBefore 15 = .ok (.aload_n 0, 1) := by decide +kernel
theorem dX4_needsHungBefore_16 : decode cX4_needsHungBefore 16 = .ok (.getfield 34, 3) := by decide +kernel
theorem dX4_needsHungBefore_19 : decode cX4_needsHungBefore 19 = .ok (.getfield 240, 3) := by decide +kernel
theorem dX4_needsHungBefore_22 : decode cX4_needsHungBefore 22 = .ok (.iload_n 2, 1) := by decide +kernel
theorem dX4_needsHungBefore_23 : decode cX4_needsHungBefore 23 = .ok (.iaload, 1) := by decide +kernel
theorem dX4_needsHungBefore_24 : decode cX4_needsHungBefore 24 = .ok (.istore_n 3, 1) := by decide +kernel
theorem dX4_needsHungBefore_25 : decode cX4_needsHungBefore 25 = .ok (.aload_n 0, 1) := by decide +kernel
theorem dX4_needsHungBefore_26 : decode cX4_needsHungBefore 26 = .ok (.getfield 17, 3) := by decide +kernel
theorem dX4_needsHungBefore_29 : decode cX4_needsHungBefore 29 = .ok (.iload_n 3, 1) := by decide +kernel
theorem dX4_needsHungBefore_30 : decode cX4_needsHungBefore 30 = .ok (.aaload, 1) := by decide +kernel
theorem dX4_needsHungBefore_31 : decode cX4_needsHungBefore 31 = .ok (.getfield 149, 3) := by decide +kernel
theorem dX4_needsHungBefore_34 : decode cX4_needsHungBefore 34 = .ok (.iload_n 1, 1) := by decide +kernel
theorem dX4_needsHungBefore_35 : decode cX4_needsHungBefore 35 = .ok (.iconst (-1), 1) := by decide +kernel
theorem dX4_needsHungBefore_36 : decode cX4_needsHungBefore 36 = .ok (.ixor, 1) := by decide +kernel
theorem dX4_needsHungBefore_37 : decode cX4_needsHungBefore 37 = .ok (.iand, 1) := by decide +kernel
theorem dX4_needsHungBefore_38 : decode cX4_needsHungBefore 38 = .ok (.ifCond .eq 5, 3) := by decide +kernel
theorem dX4_needsHungBefore_41 : decode cX4_needsHungBefore 41 = .ok (.iconst 0, 1) := by decide +kernel
theorem dX4_needsHungBefore_42 : decode cX4_needsHungBefore 42 = .ok (.ireturn, 1) := by decide +kernel
theorem dX4_needsHungBefore_43 : decode cX4_needsHungBefore 43 = .ok (.iload_n 1, 1) := by decide +kernel
theorem dX4_needsHungBefore_44 : decode cX4_needsHungBefore 44 = .ok (.iconst 1, 1) := by decide +kernel
theorem dX4_needsHungBefore_45 : decode cX4_needsHungBefore 45 = .ok (.iload_n 3, 1) := by decide +kernel
theorem dX4_needsHungBefore_46 : decode cX4_needsHungBefore 46 = .ok (.ishl, 1) := by decide +kernel
theorem dX4_needsHungBefore_47 : decode cX4_needsHungBefore 47 = .ok (.ior, 1) := by decide +kernel
theorem dX4_needsHungBefore_48 : decode cX4_needsHungBefore 48 = .ok (.istore_n 1, 1) := by decide +kernel
theorem dX4_needsHungBefore_49 : decode cX4_needsHungBefore 49 = .ok (.iinc 2 1, 3) := by decide +kernel
theorem dX4_needsHungBefore_52 : decode cX4_needsHungBefore 52 = .ok (.goto (-48), 3) := by decide +kernel
theorem dX4_needsHungBefore_55 : decode cX4_needsHungBefore 55 = .ok (.iconst 1, 1) := by decide +kernel
theorem dX4_needsHungBefore_56 : decode cX4_needsHungBefore 56 = .ok (.ireturn, 1) := by decide +kernel
theorem dX5_init_0 : decode cX5_init 0 = .ok (.aload_n 0, 1) := by decide +kernel
theorem dX5_init_1 : decode cX5_init 1 = .ok (.invokespecial 1, 3) := by decide +kernel
theorem dX5_init_4 : decode cX5_init 4 = .ok (.aload_n 0, 1) := by decide +kernel
theorem dX5_init_5 : decode cX5_init 5 = .ok (.bipush 8, 2) := by decide +kernel
theorem dX5_init_7 : decode cX5_init 7 = .ok (.newarray .int, 2) := by decide +kernel
theorem dX5_init_9 : decode cX5_init 9 = .ok (.putfield 7, 3) := by decide +kernel
theorem dX5_init_12 : decode cX5_init 12 = .ok (.aload_n 0, 1) := by decide +kernel
theorem dX5_init_13 : decode cX5_init 13 = .ok (.bipush 8, 2) := by decide +kernel
theorem dX5_init_15 : decode cX5_init 15 = .ok (.newarray .int, 2) := by decide +kernel
theorem dX5_init_17 : decode cX5_init 17 = .ok (.putfield 13, 3) := by decide +kernel
theorem dX5_init_20 : decode cX5_init 20 = .ok (.aload_n 0, 1) := by decide +kernel
theorem dX5_init_21 : decode cX5_init 21 = .ok (.bipush 6, 2) := by decide +kernel
theorem dX5_init_23 : decode cX5_init 23 = .ok (.newarray .int, 2) := by decide +kernel
theorem dX5_init_25 : decode cX5_init 25 = .ok (.putfield 16, 3) := by decide +kernel
theorem dX5_init_28 : decode cX5_init 28 = .ok (.aload_n 0, 1) := by decide +kernel
theorem dX5_init_29 : decode cX5_init 29 = .ok (.bipush 6, 2) := by decide +kernel
theorem dX5_init_31 : decode cX5_init 31 = .ok (.newarray .int, 2) := by decide +kernel
theorem dX5_init_33 : decode cX5_init 33 = .ok (.putfield 19, 3) := by decide +kernel
theorem dX5_init_36 : decode cX5_init 36 = .ok (.aload_n 0, 1) := by decide +kernel
theorem dX5_init_37 : decode cX5_init 37 = .ok (.bipush 6, 2) := by decide +kernel
theorem dX5_init_39 : decode cX5_init 39 = .ok (.newarray .int, 2) := by decide +kernel
theorem dX5_init_41 : decode cX5_init 41 = .ok (.putfield 22, 3) := by decide +kernel
theorem dX5_init_44 : decode cX5_init 44 = .ok (.aload_n 0, 1) := by decide +kernel
theorem dX5_init_45 : decode cX5_init 45 = .ok (.bipush 6, 2) := by decide +kernel
theorem dX5_init_47 : decode cX5_init 47 = .ok (.newarray .int, 2) := by decide +kernel
theorem dX5_init_49 : decode cX5_init 49 = .ok (.putfield 25, 3) := by decide +kernel
theorem dX5_init_52 : decode cX5_init 52 = .ok (.aload_n 0, 1) := by decide +kernel
theorem dX5_init_53 : decode cX5_init 53 = .ok (.bipush 6, 2) := by decide +kernel
theorem dX5_init_55 : decode cX5_init 55 = .ok (.newarray .boolean, 2) := by decide +kernel
theorem dX5_init_57 : decode cX5_init 57 = .ok (.putfield 28, 3) := by decide +kernel
theorem dX5_init_60 : decode cX5_init 60 = .ok (.aload_n 0, 1) := by decide +kernel
theorem dX5_init_61 : decode cX5_init 61 = .ok (.bipush 6, 2) := by decide +kernel
theorem dX5_init_63 : decode cX5_init 63 = .ok (.newarray .int, 2) := by decide +kernel
theorem dX5_init_65 : decode cX5_init 65 = .ok (.putfield 32, 3) := by decide +kernel
theorem dX5_init_68 : decode cX5_init 68 = .ok (.aload_n 0, 1) := by decide +kernel
theorem dX5_init_69 : decode cX5_init 69 = .ok (.bipush 6, 2) := by decide +kernel
theorem dX5_init_71 : decode cX5_init 71 = .ok (.newarray .int, 2) := by decide +kernel
theorem dX5_init_73 : decode cX5_init 73 = .ok (.putfield 35, 3) := by decide +kernel
theorem dX5_init_76 : decode cX5_init 76 = .ok (.aload_n 0, 1) := by decide +kernel
theorem dX5_init_77 : decode cX5_init 77 = .ok (.bipush 6, 2) := by decide +kernel
theorem dX5_init_79 : decode cX5_init 79 = .ok (.newarray .int, 2) := by decide +kernel
theorem dX5_init_81 : decode cX5_init 81 = .ok (.putfield 38, 3) := by decide +kernel
theorem dX5_init_84 : decode cX5_init 84 = .ok (.aload_n 0, 1) := by decide +kernel
theorem dX5_init_85 : decode cX5_init 85 = .ok (.bipush 6, 2) := by decide +kernel
theorem dX5_init_87 : decode cX5_init 87 = .ok (.newarray .int, 2) := by decide +kernel
theorem dX5_init_89 : decode cX5_init 89 = .ok (.putfield 41, 3) := by decide +kernel
theorem dX5_init_92 : decode cX5_init 92 = .ok (.aload_n 0, 1) := by decide +kernel
theorem dX5_init_93 : decode cX5_init 93 = .ok (.bipush 6, 2) := by decide +kernel
theorem dX5_init_95 : decode cX5_init 95 = .ok (.newarray .int, 2) := by decide +kernel
theorem dX5_init_97 : decode cX5_init 97 = .ok (.putfield 44, 3) := by decide +kernel
theorem dX5_init_100 : decode cX5_init 100 = .ok (.aload_n 0, 1) := by decide +kernel
theorem dX5_init_101 : decode cX5_init 101 = .ok (.iconst 3, 1) := by decide +kernel
theorem dX5_init_102 : decode cX5_init 102 = .ok (.newarray .int, 2) := by decide +kernel
theorem dX5_init_104 : decode cX5_init 104 = .ok (.putfield 47, 3) := by decide +kernel
theorem dX5_init_107 : decode cX5_init 107 = .ok (.aload_n 0, 1) := by decide +kernel
theorem dX5_init_108 : decode cX5_init 108 = .ok (.iconst 4, 1) := by decide +kernel
theorem dX5_init_109 : decode cX5_init 109 = .ok (.newarray .int, 2) := by decide +kernel
theorem dX5_init_111 : decode cX5_init 111 = .ok (.putfield 50, 3) := by decide +kernel
theorem dX5_init_114 : decode cX5_init 114 = .ok (.aload_n 0, 1) := by decide +kernel
theorem dX5_init_115 : decode cX5_init 115 = .ok (.iconst 4, 1) := by decide +kernel
theorem dX5_init_116 : decode cX5_init 116 = .ok (.newarray .int, 2) := by decide +kernel
theorem dX5_init_118 : decode cX5_init 118 = .ok (.putfield 53, 3) := by decide +kernel
theorem dX5_init_121 : decode cX5_init 121 = .ok (.aload_n 0, 1) := by decide +kernel
theorem dX5_init_122 : decode cX5_init 122 = .ok (.iconst 4, 1) := by decide +kernel
theorem dX5_init_123 : decode cX5_init 123 = .ok (.newarray .int, 2) := by decide +kernel
theorem dX5_init_125 : decode cX5_init 125 = .ok (.putfield 56, 3) := by decide +kernel
theorem dX5_init_128 : decode cX5_init 128 = .ok (.aload_n 0, 1) := by decide +kernel
theorem dX5_init_129 : decode cX5_init 129 = .ok (.iconst 4, 1) := by decide +kernel
theorem dX5_init_130 : decode cX5_init 130 = .ok (.newarray .int, 2) := by decide +kernel
theorem dX5_init_132 : decode cX5_init 132 = .ok (.putfield 59, 3) := by decide +kernel
theorem dX5_init_135 : decode cX5_init 135 = .ok (.aload_n 0, 1) := by decide +kernel
theorem dX5_init_136 : decode cX5_init 136 = .ok (.iconst 4, 1) := by decide +kernel
theorem dX5_init_137 : decode cX5_init 137 = .ok (.newarray .int, 2) := by decide +kernel
theorem dX5_init_139 : decode cX5_init 139 = .ok (.putfield 62, 3) := by decide +kernel
theorem dX5_init_142 : decode cX5_init 142 = .ok (.aload_n 0, 1) := by decide +kernel
theorem dX5_init_143 : decode cX5_init 143 = .ok (.iconst 4, 1) := by decide +kernel
theorem dX5_init_144 : decode cX5_init 144 = .ok (.newarray .int, 2) := by decide +kernel
theorem dX5_init_146 : decode cX5_init 146 = .ok (.putfield 65, 3) := by decide +kernel
theorem dX5_init_149 : decode cX5_init 149 = .ok (.aload_n 0, 1) := by decide +kernel
theorem dX5_init_150 : decode cX5_init 150 = .ok (.iconst 4, 1) := by decide +kernel
theorem dX5_init_151 : decode cX5_init 151 = .ok (.newarray .int, 2) := by decide +kernel
theorem dX5_init_153 : decode cX5_init 153 = .ok (.putfield 68, 3) := by decide +kernel
theorem dX5_init_156 : decode cX5_init 156 = .ok (.aload_n 0, 1) := by decide +kernel
theorem dX5_init_157 : decode cX5_init 157 = .ok (.iconst (-1), 1) := by decide +kernel
theorem dX5_init_158 : decode cX5_init 158 = .ok (.putfield 71, 3) := by decide +kernel
theorem dX5_init_161 : decode cX5_init 161 = .ok (.aload_n 0, 1) := by decide +kernel
theorem dX5_init_162 : decode cX5_init 162 = .ok (.bipush 6, 2) := by decide +kernel
theorem dX5_init_164 : decode cX5_init 164 = .ok (.newarray .int, 2) := by decide +kernel
theorem dX5_init_166 : decode cX5_init 166 = .ok (.putfield 75, 3) := by decide +kernel
theorem dX5_init_169 : decode cX5_init 169 = .ok (.aload_n 0, 1) := by decide +kernel
theorem dX5_init_170 : decode cX5_init 170 = .ok (.bipush 6, 2) := by decide +kernel
theorem dX5_init_172 : decode cX5_init 172 = .ok (.newarray .int, 2) := by decide +kernel
theorem dX5_init_174 : decode cX5_init 174 = .ok (.putfield 78, 3) := by decide +kernel
theorem dX5_init_177 : decode cX5_init 177 = .ok (.aload_n 0, 1) := by decide +kernel
theorem dX5_init_178 : decode cX5_init 178 = .ok (.bipush 6, 2) := by decide +kernel
theorem dX5_init_180 : decode cX5_init 180 = .ok (.newarray .int, 2) := by decide +kernel
theorem dX5_init_182 : decode cX5_init 182 = .ok (.putfield 81, 3) := by decide +kernel
theorem dX5_init_185 : decode cX5_init 185 = .ok (.aload_n 0, 1) := by decide +kernel
theorem dX5_init_186 : decode cX5_init 186 = .ok (.bipush 6, 2) := by decide +kernel
theorem dX5_init_188 : decode cX5_init 188 = .ok (.newarray .int, 2) := by decide +kernel
theorem dX5_init_190 : decode cX5_init 190 = .ok (.putfield 84, 3) := by decide +kernel
theorem dX5_init_193 : decode cX5_init 193 = .ok (.return_, 1) := by decide +kernel
theorem dX5_thrown_0 : decode cX5_thrown 0 = .ok (.aload_n 0, 1) := by decide +kernel
theorem dX5_thrown_1 : decode cX5_thrown 1 = .ok (.getfield 87, 3) := by decide +kernel
theorem dX5_thrown_4 : decode cX5_thrown 4 = .ok (.ireturn, 1) := by decide +kernel
theorem dX5_fails_0 : decode cX5_fails 0 = .ok (.aload_n 0, 1) := by decide +kernel
theorem dX5_fails_1 : decode cX5_fails 1 = .ok (.iload_n 1, 1) := by decide +kernel
theorem dX5_fails_2 : decode cX5_fails 2 = .ok (.putfield 87, 3) := by decide +kernel
theorem dX5_fails_5 : decode cX5_fails 5 = .ok (.iload_n 1, 1) := by decide +kernel
theorem dX5_fails_6 : decode cX5_fails 6 = .ok (.ifCond .le 7, 3) := by decide +kernel
theorem dX5_fails_9 : decode cX5_fails 9 = .ok (.iconst 1, 1) := by decide +kernel
theorem dX5_fails_10 : decode cX5_fails 10 = .ok (.goto 4, 3) := by decide +kernel
theorem dX5_fails_13 : decode cX5_fails 13 = .ok (.iconst 0, 1) := by decide +kernel
theorem dX5_fails_14 : decode cX5_fails 14 = .ok (.ireturn, 1) := by decide +kernel
theorem dX5_tells_0 : decode cX5_tells 0 = .ok (.aload_n 0, 1) := by decide +kernel
theorem dX5_tells_1 : decode cX5_tells 1 = .ok (.iconst 0, 1) := by decide +kernel
theorem dX5_tells_2 : decode cX5_tells 2 = .ok (.putfield 87, 3) := by decide +kernel
theorem dX5_tells_5 : decode cX5_tells 5 = .ok (.iload_n 1, 1) := by decide +kernel
theorem dX5_tells_6 : decode cX5_tells 6 = .ok (.ireturn, 1) := by decide +kernel
theorem dX5_in_0 : decode cX5_in 0 = .ok (.iload_n 0, 1) := by decide +kernel
theorem dX5_in_1 : decode cX5_in 1 = .ok (.iload_n 1, 1) := by decide +kernel
theorem dX5_in_2 : decode cX5_in 2 = .ok (.if_icmp .lt 12, 3) := by decide +kernel
theorem dX5_in_5 : decode cX5_in 5 = .ok (.iload_n 0, 1) := by decide +kernel
theorem dX5_in_6 : decode cX5_in 6 = .ok (.iload_n 2, 1) := by decide +kernel
theorem dX5_in_7 : decode cX5_in 7 = .ok (.if_icmp .gt 7, 3) := by decide +kernel
theorem dX5_in_10 : decode cX5_in 10 = .ok (.iconst 1, 1) := by decide +kernel
theorem dX5_in_11 : decode cX5_in 11 = .ok (.goto 4, 3) := by decide +kernel
theorem dX5_in_14 : decode cX5_in 14 = .ok (.iconst 0, 1) := by decide +kernel
theorem dX5_in_15 : decode cX5_in 15 = .ok (.ireturn, 1) := by decide +kernel
theorem dX5_isNoPoint_0 : decode cX5_isNoPoint 0 = .ok (.iload_n 1, 1) := by decide +kernel
theorem dX5_isNoPoint_1 : decode cX5_isNoPoint 1 = .ok (.iconst 0, 1) := by decide +kernel
theorem dX5_isNoPoint_2 : decode cX5_isNoPoint 2 = .ok (.aload_n 0, 1) := by decide +kernel
theorem dX5_isNoPoint_3 : decode cX5_isNoPoint 3 = .ok (.getfield 90, 3) := by decide +kernel
theorem dX5_isNoPoint_6 : decode cX5_isNoPoint 6 = .ok (.iconst 1, 1) := by decide +kernel
theorem dX5_isNoPoint_7 : decode cX5_isNoPoint 7 = .ok (.isub, 1) := by decide +kernel
theorem dX5_isNoPoint_8 : decode cX5_isNoPoint 8 = .ok (.invokestatic 93, 3) := by decide +kernel
theorem dX5_isNoPoint_11 : decode cX5_isNoPoint 11 = .ok (.ifCond .ne 7, 3) := by decide +kernel
theorem dX5_isNoPoint_14 : decode cX5_isNoPoint 14 = .ok (.iconst 1, 1) := by decide +kernel
theorem dX5_isNoPoint_15 : decode cX5_isNoPoint 15 = .ok (.goto 4, 3) := by decide +kernel
theorem dX5_isNoPoint_18 : decode cX5_isNoPoint 18 = .ok (.iconst 0, 1) := by decide +kernel
theorem dX5_isNoPoint_19 : decode cX5_isNoPoint 19 = .ok (.ireturn, 1) := by decide +kernel
theorem dX5_isNoPiece_0 : decode cX5_isNoPiece 0 = .ok (.iload_n 1, 1) := by decide +kernel
theorem dX5_isNoPiece_1 : decode cX5_isNoPiece 1 = .ok (.iconst 0, 1) := by decide +kernel
theorem dX5_isNoPiece_2 : decode cX5_isNoPiece 2 = .ok (.aload_n 0, 1) := by decide +kernel
theorem dX5_isNoPiece_3 : decode cX5_isNoPiece 3 = .ok (.getfield 97, 3) := by decide +kernel
theorem dX5_isNoPiece_6 : decode cX5_isNoPiece 6 = .ok (.iconst 1, 1) := by decide +kernel
theorem dX5_isNoPiece_7 : decode cX5_isNoPiece 7 = .ok (.isub, 1) := by decide +kernel
theorem dX5_isNoPiece_8 : decode cX5_isNoPiece 8 = .ok (.invokestatic 93, 3) := by decide +kernel
theorem dX5_isNoPiece_11 : decode cX5_isNoPiece 11 = .ok (.ifCond .ne 7, 3) := by decide +kernel
theorem dX5_isNoPiece_14 : decode cX5_isNoPiece 14 = .ok (.iconst 1, 1) := by decide +kernel
theorem dX5_isNoPiece_15 : decode cX5_isNoPiece 15 = .ok (.goto 4, 3) := by decide +kernel
theorem dX5_isNoPiece_18 : decode cX5_isNoPiece 18 = .ok (.iconst 0, 1) := by decide +kernel
theorem dX5_isNoPiece_19 : decode cX5_isNoPiece 19 = .ok (.ireturn, 1) := by decide +kernel
theorem dX5_inRig_0 : decode cX5_inRig 0 = .ok (.iconst 0, 1) := by decide +kernel
theorem dX5_inRig_1 : decode cX5_inRig 1 = .ok (.istore_n 2, 1) := by decide +kernel
theorem dX5_inRig_2 : decode cX5_inRig 2 = .ok (.iload_n 2, 1) := by decide +kernel
theorem dX5_inRig_3 : decode cX5_inRig 3 = .ok (.aload_n 0, 1) := by decide +kernel
theorem dX5_inRig_4 : decode cX5_inRig 4 = .ok (.getfield 100, 3) := by decide +kernel
theorem dX5_inRig_7 : decode cX5_inRig 7 = .ok (.if_icmp .ge 21, 3) := by decide +kernel
theorem dX5_inRig_10 : decode cX5_inRig 10 = .ok (.aload_n 0, 1) := by decide +kernel
theorem dX5_inRig_11 : decode cX5_inRig 11 = .ok (.getfield 75, 3) := by decide +kernel
theorem dX5_inRig_14 : decode cX5_inRig 14 = .ok (.iload_n 2, 1) := by decide +kernel
theorem dX5_inRig_15 : decode cX5_inRig 15 = .ok (.iaload, 1) := by decide +kernel
theorem dX5_inRig_16 : decode cX5_inRig 16 = .ok (.iload_n 1, 1) := by decide +kernel
theorem dX5_inRig_17 : decode cX5_inRig 17 = .ok (.if_icmp .ne 5, 3) := by decide +kernel
theorem dX5_inRig_20 : decode cX5_inRig 20 = .ok (.iload_n 2, 1) := by decide +kernel
theorem dX5_inRig_21 : decode cX5_inRig 21 = .ok (.ireturn, 1) := by decide +kernel
theorem dX5_inRig_22 : decode cX5_inRig 22 = .ok (.iinc 2 1, 3) := by decide +kernel
theorem dX5_inRig_25 : decode cX5_inRig 25 = .ok (.goto (-23), 3) := by decide +kernel
theorem dX5_inRig_28 : decode cX5_inRig 28 = .ok (.iconst (-1), 1) := by decide +kernel
theorem dX5_inRig_29 : decode cX5_inRig 29 = .ok (.ireturn, 1) := by decide +kernel
theorem dX5_addPoint_0 : decode cX5_addPoint 0 = .ok (.aload_n 0, 1) := by decide +kernel
theorem dX5_addPoint_1 : decode cX5_addPoint 1 = .ok (.iload_n 1, 1) := by decide +kernel
theorem dX5_addPoint_2 : decode cX5_addPoint 2 = .ok (.iconst 0, 1) := by decide +kernel
theorem dX5_addPoint_3 : decode cX5_addPoint 3 = .ok (.bipush 60, 2) := by decide +kernel
theorem dX5_addPoint_5 : decode cX5_addPoint 5 = .ok (.invokestatic 93, 3) := by decide +kernel
theorem dX5_addPoint_8 : decode cX5_addPoint 8 = .ok (.ifCond .eq 15, 3) := by decide +kernel
theorem dX5_addPoint_11 : decode cX5_addPoint 11 = .ok (.iload_n 2, 1) := by decide +kernel
theorem dX5_addPoint_12 : decode cX5_addPoint 12 = .ok (.bipush 100, 2) := by decide +kernel
theorem dX5_addPoint_14 : decode cX5_addPoint 14 = .ok (.sipush 5000, 3) := by decide +kernel
theorem dX5_addPoint_17 : decode cX5_addPoint 17 = .ok (.invokestatic 93, 3) := by decide +kernel
theorem dX5_addPoint_20 : decode cX5_addPoint 20 = .ok (.ifCond .ne 7, 3) := by decide +kernel
theorem dX5_addPoint_23 : decode cX5_addPoint 23 = .ok (.iconst 1, 1) := by decide +kernel
theorem dX5_addPoint_24 : decode cX5_addPoint 24 = .ok (.goto 17, 3) := by decide +kernel
theorem dX5_addPoint_27 : decode cX5_addPoint 27 = .ok (.aload_n 0, 1) := by decide +kernel
theorem dX5_addPoint_28 : decode cX5_addPoint 28 = .ok (.getfield 90, 3) := by decide +kernel
theorem dX5_addPoint_31 : decode cX5_addPoint 31 = .ok (.bipush 8, 2) := by decide +kernel
theorem dX5_addPoint_33 : decode cX5_addPoint 33 = .ok (.if_icmp .ne 7, 3) := by decide +kernel
theorem dX5_addPoint_36 : decode cX5_addPoint 36 = .ok (.iconst 2, 1) := by decide +kernel
theorem dX5_addPoint_37 : decode cX5_addPoint 37 = .ok (.goto 4, 3) := by decide +kernel
theorem dX5_addPoint_40 : decode cX5_addPoint 40 = .ok (.iconst 0, 1) := by decide +kernel
theorem dX5_addPoint_41 : decode cX5_addPoint 41 = .ok (.invokevirtual 103, 3) := by decide +kernel
theorem dX5_addPoint_44 : decode cX5_addPoint 44 = .ok (.ifCond .eq 5, 3) := by decide +kernel
theorem dX5_addPoint_47 : decode cX5_addPoint 47 = .ok (.iconst 0, 1) := by decide +kernel
theorem dX5_addPoint_48 : decode cX5_addPoint 48 = .ok (.ireturn, 1) := by decide +kernel
theorem dX5_addPoint_49 : decode cX5_addPoint 49 = .ok (.aload_n 0, 1) := by decide +kernel
theorem dX5_addPoint_50 : decode cX5_addPoint 50 = .ok (.getfield 7, 3) := by decide +kernel
theorem dX5_addPoint_53 : decode cX5_addPoint 53 = .ok (.aload_n 0, 1) := by decide +kernel
theorem dX5_addPoint_54 : decode cX5_addPoint 54 = .ok (.getfield 90, 3) := by decide +kernel
theorem dX5_addPoint_57 : decode cX5_addPoint 57 = .ok (.iload_n 1, 1) := by decide +kernel
theorem dX5_addPoint_58 : decode cX5_addPoint 58 = .ok (.iastore, 1) := by decide +kernel
theorem dX5_addPoint_59 : decode cX5_addPoint 59 = .ok (.aload_n 0, 1) := by decide +kernel
theorem dX5_addPoint_60 : decode cX5_addPoint 60 = .ok (.getfield 13, 3) := by decide +kernel
theorem dX5_addPoint_63 : decode cX5_addPoint 63 = .ok (.aload_n 0, 1) := by decide +kernel
theorem dX5_addPoint_64 : decode cX5_addPoint 64 = .ok (.getfield 90, 3) := by decide +kernel
theorem dX5_addPoint_67 : decode cX5_addPoint 67 = .ok (.iload_n 2, 1) := by decide +kernel
theorem dX5_addPoint_68 : decode cX5_addPoint 68 = .ok (.iastore, 1) := by decide +kernel
theorem dX5_addPoint_69 : decode cX5_addPoint 69 = .ok (.aload_n 0, 1) := by decide +kernel
theorem dX5_addPoint_70 : decode cX5_addPoint 70 = .ok (.dup, 1) := by decide +kernel
theorem dX5_addPoint_71 : decode cX5_addPoint 71 = .ok (.getfield 90, 3) := by decide +kernel
theorem dX5_addPoint_74 : decode cX5_addPoint 74 = .ok (.iconst 1, 1) := by decide +kernel
theorem dX5_addPoint_75 : decode cX5_addPoint 75 = .ok (.iadd, 1) := by decide +kernel
theorem dX5_addPoint_76 : decode cX5_addPoint 76 = .ok (.putfield 90, 3) := by decide +kernel
theorem dX5_addPoint_79 : decode cX5_addPoint 79 = .ok (.aload_n 0, 1) := by decide +kernel
theorem dX5_addPoint_80 : decode cX5_addPoint 80 = .ok (.getfield 90, 3) := by decide +kernel
theorem dX5_addPoint_83 : decode cX5_addPoint 83 = .ok (.iconst 1, 1) := by decide +kernel
theorem dX5_addPoint_84 : decode cX5_addPoint 84 = .ok (.isub, 1) := by decide +kernel
theorem dX5_addPoint_85 : decode cX5_addPoint 85 = .ok (.ireturn, 1) := by decide +kernel
theorem dX5_addPiece_0 : decode cX5_addPiece 0 = .ok (.iload_n 1, 1) := by decide +kernel
theorem dX5_addPiece_1 : decode cX5_addPiece 1 = .ok (.bipush 10, 2) := by decide +kernel
theorem dX5_addPiece_3 : decode cX5_addPiece 3 = .ok (.sipush 2000, 3) := by decide +kernel
theorem dX5_addPiece_6 : decode cX5_addPiece 6 = .ok (.invokestatic 93, 3) := by decide +kernel
theorem dX5_addPiece_9 : decode cX5_addPiece 9 = .ok (.ifCond .eq 38, 3) := by decide +kernel
theorem dX5_addPiece_12 : decode cX5_addPiece 12 = .ok (.iload_n 2, 1) := by decide +kernel
theorem dX5_addPiece_13 : decode cX5_addPiece 13 = .ok (.iconst 5, 1) := by decide +kernel
theorem dX5_addPiece_14 : decode cX5_addPiece 14 = .ok (.sipush 240, 3) := by decide +kernel
theorem dX5_addPiece_17 : decode cX5_addPiece 17 = .ok (.invokestatic 93, 3) := by decide +kernel
theorem dX5_addPiece_20 : decode cX5_addPiece 20 = .ok (.ifCond .eq 27, 3) := by decide +kernel
theorem dX5_addPiece_23 : decode cX5_addPiece 23 = .ok (.iload_n 3, 1) := by decide +kernel
theorem dX5_addPiece_24 : decode cX5_addPiece 24 = .ok (.iconst 1, 1) := by decide +kernel
theorem dX5_addPiece_25 : decode cX5_addPiece 25 = .ok (.bipush 99, 2) := by decide +kernel
theorem dX5_addPiece_27 : decode cX5_addPiece 27 = .ok (.invokestatic 93, 3) := by decide +kernel
theorem dX5_addPiece_30 : decode cX5_addPiece 30 = .ok (.ifCond .eq 17, 3) := by decide +kernel
theorem dX5_addPiece_33 : decode cX5_addPiece 33 = .ok (.iload 4, 2) := by decide +kernel
theorem dX5_addPiece_35 : decode cX5_addPiece 35 = .ok (.iconst 0, 1) := by decide +kernel
theorem dX5_addPiece_36 : decode cX5_addPiece 36 = .ok (.iconst 2, 1) := by decide +kernel
theorem dX5_addPiece_37 : decode cX5_addPiece 37 = .ok (.invokestatic 93, 3) := by decide +kernel
theorem dX5_addPiece_40 : decode cX5_addPiece 40 = .ok (.ifCond .eq 7, 3) := by decide +kernel
theorem dX5_addPiece_43 : decode cX5_addPiece 43 = .ok (.iconst 1, 1) := by decide +kernel
theorem dX5_addPiece_44 : decode cX5_addPiece 44 = .ok (.goto 4, 3) := by decide +kernel
theorem dX5_addPiece_47 : decode cX5_addPiece 47 = .ok (.iconst 0, 1) := by decide +kernel
theorem dX5_addPiece_48 : decode cX5_addPiece 48 = .ok (.istore 5, 2) := by decide +kernel
theorem dX5_addPiece_50 : decode cX5_addPiece 50 = .ok (.aload_n 0, 1) := by decide +kernel
theorem dX5_addPiece_51 : decode cX5_addPiece 51 = .ok (.iload 5, 2) := by decide +kernel
theorem dX5_addPiece_53 : decode cX5_addPiece 53 = .ok (.ifCond .ne 7, 3) := by decide +kernel
theorem dX5_addPiece_56 : decode cX5_addPiece 56 = .ok (.iconst 1, 1) := by decide +kernel
theorem dX5_addPiece_57 : decode cX5_addPiece 57 = .ok (.goto 17, 3) := by decide +kernel
theorem dX5_addPiece_60 : decode cX5_addPiece 60 = .ok (.aload_n 0, 1) := by decide +kernel
theorem dX5_addPiece_61 : decode cX5_addPiece 61 = .ok (.getfield 97, 3) := by decide +kernel
theorem dX5_addPiece_64 : decode cX5_addPiece 64 = .ok (.bipush 6, 2) := by decide +kernel
theorem dX5_addPiece_66 : decode cX5_addPiece 66 = .ok (.if_icmp .ne 7, 3) := by decide +kernel
theorem dX5_addPiece_69 : decode cX5_addPiece 69 = .ok (.iconst 2, 1) := by decide +kernel
theorem dX5_addPiece_70 : decode cX5_addPiece 70 = .ok (.goto 4, 3) := by decide +kernel
theorem dX5_addPiece_73 : decode cX5_addPiece 73 = .ok (.iconst 0, 1) := by decide +kernel
theorem dX5_addPiece_74 : decode cX5_addPiece 74 = .ok (.invokevirtual 103, 3) := by decide +kernel
theorem dX5_addPiece_77 : decode cX5_addPiece 77 = .ok (.ifCond .eq 5, 3) := by decide +kernel
theorem dX5_addPiece_80 : decode cX5_addPiece 80 = .ok (.iconst 0, 1) := by decide +kernel
theorem dX5_addPiece_81 : decode cX5_addPiece 81 = .ok (.ireturn, 1) := by decide +kernel
theorem dX5_addPiece_82 : decode cX5_addPiece 82 = .ok (.aload_n 0, 1) := by decide +kernel
theorem dX5_addPiece_83 : decode cX5_addPiece 83 = .ok (.getfield 16, 3) := by decide +kernel
theorem dX5_addPiece_86 : decode cX5_addPiece 86 = .ok (.aload_n 0, 1) := by decide +kernel
theorem dX5_addPiece_87 : decode cX5_addPiece 87 = .ok (.getfield 97, 3) := by decide +kernel
theorem dX5_addPiece_90 : decode cX5_addPiece 90 = .ok (.iload_n 1, 1) := by decide +kernel
theorem dX5_addPiece_91 : decode cX5_addPiece 91 = .ok (.iastore, 1) := by decide +kernel
theorem dX5_addPiece_92 : decode cX5_addPiece 92 = .ok (.aload_n 0, 1) := by decide +kernel
theorem dX5_addPiece_93 : decode cX5_addPiece 93 = .ok (.getfield 19, 3) := by decide +kernel
theorem dX5_addPiece_96 : decode cX5_addPiece 96 = .ok (.aload_n 0, 1) := by decide +kernel
theorem dX5_addPiece_97 : decode cX5_addPiece 97 = .ok (.getfield 97, 3) := by decide +kernel
theorem dX5_addPiece_100 : decode cX5_addPiece 100 = .ok (.iload_n 2, 1) := by decide +kernel
theorem dX5_addPiece_101 : decode cX5_addPiece 101 = .ok (.iastore, 1) := by decide +kernel
theorem dX5_addPiece_102 : decode cX5_addPiece 102 = .ok (.aload_n 0, 1) := by decide +kernel
theorem dX5_addPiece_103 : decode cX5_addPiece 103 = .ok (.getfield 22, 3) := by decide +kernel
theorem dX5_addPiece_106 : decode cX5_addPiece 106 = .ok (.aload_n 0, 1) := by decide +kernel
theorem dX5_addPiece_107 : decode cX5_addPiece 107 = .ok (.getfield 97, 3) := by decide +kernel
theorem dX5_addPiece_110 : decode cX5_addPiece 110 = .ok (.iload_n 3, 1) := by decide +kernel
theorem dX5_addPiece_111 : decode cX5_addPiece 111 = .ok (.iastore, 1) := by decide +kernel
theorem dX5_addPiece_112 : decode cX5_addPiece 112 = .ok (.aload_n 0, 1) := by decide +kernel
theorem dX5_addPiece_113 : decode cX5_addPiece 113 = .ok (.getfield 25, 3) := by decide +kernel
theorem dX5_addPiece_116 : decode cX5_addPiece 116 = .ok (.aload_n 0, 1) := by decide +kernel
theorem dX5_addPiece_117 : decode cX5_addPiece 117 = .ok (.getfield 97, 3) := by decide +kernel
theorem dX5_addPiece_120 : decode cX5_addPiece 120 = .ok (.iload 4, 2) := by decide +kernel
theorem dX5_addPiece_122 : decode cX5_addPiece 122 = .ok (.iastore, 1) := by decide +kernel
theorem dX5_addPiece_123 : decode cX5_addPiece 123 = .ok (.aload_n 0, 1) := by decide +kernel
theorem dX5_addPiece_124 : decode cX5_addPiece 124 = .ok (.dup, 1) := by decide +kernel
theorem dX5_addPiece_125 : decode cX5_addPiece 125 = .ok (.getfield 97, 3) := by decide +kernel
theorem dX5_addPiece_128 : decode cX5_addPiece 128 = .ok (.iconst 1, 1) := by decide +kernel
theorem dX5_addPiece_129 : decode cX5_addPiece 129 = .ok (.iadd, 1) := by decide +kernel
theorem dX5_addPiece_130 : decode cX5_addPiece 130 = .ok (.putfield 97, 3) := by decide +kernel
theorem dX5_addPiece_133 : decode cX5_addPiece 133 = .ok (.aload_n 0, 1) := by decide +kernel
theorem dX5_addPiece_134 : decode cX5_addPiece 134 = .ok (.getfield 97, 3) := by decide +kernel
theorem dX5_addPiece_137 : decode cX5_addPiece 137 = .ok (.iconst 1, 1) := by decide +kernel
theorem dX5_addPiece_138 : decode cX5_addPiece 138 = .ok (.isub, 1) := by decide +kernel
theorem dX5_addPiece_139 : decode cX5_addPiece 139 = .ok (.ireturn, 1) := by decide +kernel
theorem dX5_partOfRight_0 : decode cX5_partOfRight 0 = .ok (.aload_n 0, 1) := by decide +kernel
theorem dX5_partOfRight_1 : decode cX5_partOfRight 1 = .ok (.getfield 16, 3) := by decide +kernel
theorem dX5_partOfRight_4 : decode cX5_partOfRight 4 = .ok (.iload_n 1, 1) := by decide +kernel
theorem dX5_partOfRight_5 : decode cX5_partOfRight 5 = .ok (.iaload, 1) := by decide +kernel
theorem dX5_partOfRight_6 : decode cX5_partOfRight 6 = .ok (.aload_n 0, 1) := by decide +kernel
theorem dX5_partOfRight_7 : decode cX5_partOfRight 7 = .ok (.getfield 38, 3) := by decide +kernel
theorem dX5_partOfRight_10 : decode cX5_partOfRight 10 = .ok (.iload_n 1, 1) := by decide +kernel
theorem dX5_partOfRight_11 : decode cX5_partOfRight 11 = .ok (.iaload, 1) := by decide +kernel
theorem dX5_partOfRight_12 : decode cX5_partOfRight 12 = .ok (.aload_n 0, 1) := by decide +kernel
theorem dX5_partOfRight_13 : decode cX5_partOfRight 13 = .ok (.getfield 7, 3) := by decide +kernel
theorem dX5_partOfRight_16 : decode cX5_partOfRight 16 = .ok (.aload_n 0, 1) := by decide +kernel
theorem dX5_partOfRight_17 : decode cX5_partOfRight 17 = .ok (.getfield 32, 3) := by decide +kernel
theorem dX5_partOfRight_20 : decode cX5_partOfRight 20 = .ok (.iload_n 1, 1) := by decide +kernel
theorem dX5_partOfRight_21 : decode cX5_partOfRight 21 = .ok (.iaload, 1) := by decide +kernel
theorem dX5_partOfRight_22 : decode cX5_partOfRight 22 = .ok (.iaload, 1) := by decide +kernel
theorem dX5_partOfRight_23 : decode cX5_partOfRight 23 = .ok (.isub, 1) := by decide +kernel
theorem dX5_partOfRight_24 : decode cX5_partOfRight 24 = .ok (.imul, 1) := by decide +kernel
theorem dX5_partOfRight_25 : decode cX5_partOfRight 25 = .ok (.aload_n 0, 1) := by decide +kernel
theorem dX5_partOfRight_26 : decode cX5_partOfRight 26 = .ok (.getfield 7, 3) := by decide +kernel
theorem dX5_partOfRight_29 : decode cX5_partOfRight 29 = .ok (.aload_n 0, 1) := by decide +kernel
theorem dX5_partOfRight_30 : decode cX5_partOfRight 30 = .ok (.getfield 35, 3) := by decide +kernel
theorem dX5_partOfRight_33 : decode cX5_partOfRight 33 = .ok (.iload_n 1, 1) := by decide +kernel
theorem dX5_partOfRight_34 : decode cX5_partOfRight 34 = .ok (.iaload, 1) := by decide +kernel
theorem dX5_partOfRight_35 : decode cX5_partOfRight 35 = .ok (.iaload, 1) := by decide +kernel
theorem dX5_partOfRight_36 : decode cX5_partOfRight 36 = .ok (.aload_n 0, 1) := by decide +kernel
theorem dX5_partOfRight_37 : decode cX5_partOfRight 37 = .ok (.getfield 7, 3) := by decide +kernel
theorem dX5_partOfRight_40 : decode cX5_partOfRight 40 = .ok (.aload_n 0, 1) := by decide +kernel
theorem dX5_partOfRight_41 : decode cX5_partOfRight 41 = .ok (.getfield 32, 3) := by decide +kernel
theorem dX5_partOfRight_44 : decode cX5_partOfRight 44 = .ok (.iload_n 1, 1) := by decide +kernel
theorem dX5_partOfRight_45 : decode cX5_partOfRight 45 = .ok (.iaload, 1) := by decide +kernel
theorem dX5_partOfRight_46 : decode cX5_partOfRight 46 = .ok (.iaload, 1) := by decide +kernel
theorem dX5_partOfRight_47 : decode cX5_partOfRight 47 = .ok (.isub, 1) := by decide +kernel
theorem dX5_partOfRight_48 : decode cX5_partOfRight 48 = .ok (.idiv, 1) := by decide +kernel
theorem dX5_partOfRight_49 : decode cX5_partOfRight 49 = .ok (.ireturn, 1) := by decide +kernel
theorem dX5_isFixing_0 : decode cX5_isFixing 0 = .ok (.aload_n 0, 1) := by decide +kernel
theorem dX5_isFixing_1 : decode cX5_isFixing 1 = .ok (.getfield 7, 3) := by decide +kernel
theorem dX5_isFixing_4 : decode cX5_isFixing 4 = .ok (.iload_n 2, 1) := by decide +kernel
theorem dX5_isFixing_5 : decode cX5_isFixing 5 = .ok (.iaload, 1) := by decide +kernel
theorem dX5_isFixing_6 : decode cX5_isFixing 6 = .ok (.aload_n 0, 1) := by decide +kernel
theorem dX5_isFixing_7 : decode cX5_isFixing 7 = .ok (.getfield 7, 3) := by decide +kernel
theorem dX5_isFixing_10 : decode cX5_isFixing 10 = .ok (.iload_n 1, 1) := by decide +kernel
theorem dX5_isFixing_11 : decode cX5_isFixing 11 = .ok (.iaload, 1) := by decide +kernel
theorem dX5_isFixing_12 : decode cX5_isFixing 12 = .ok (.if_icmp .le 37, 3) := by decide +kernel
theorem dX5_isFixing_15 : decode cX5_isFixing 15 = .ok (.iload_n 3, 1) := by decide +kernel
theorem dX5_isFixing_16 : decode cX5_isFixing 16 = .ok (.aload_n 0, 1) := by decide +kernel
theorem dX5_isFixing_17 : decode cX5_isFixing 17 = .ok (.getfield 7, 3) := by decide +kernel
theorem dX5_isFixing_20 : decode cX5_isFixing 20 = .ok (.iload_n 1, 1) := by decide +kernel
theorem dX5_isFixing_21 : decode cX5_isFixing 21 = .ok (.iaload, 1) := by decide +kernel
theorem dX5_isFixing_22 : decode cX5_isFixing 22 = .ok (.aload_n 0, 1) := by decide +kernel
theorem dX5_isFixing_23 : decode cX5_isFixing 23 = .ok (.getfield 7, 3) := by decide +kernel
theorem dX5_isFixing_26 : decode cX5_isFixing 26 = .ok (.iload_n 2, 1) := by decide +kernel
theorem dX5_isFixing_27 : decode cX5_isFixing 27 = .ok (.iaload, 1) := by decide +kernel
theorem dX5_isFixing_28 : decode cX5_isFixing 28 = .ok (.invokestatic 93, 3) := by decide +kernel
theorem dX5_isFixing_31 : decode cX5_isFixing 31 = .ok (.ifCond .eq 18, 3) := by decide +kernel
theorem dX5_isFixing_34 : decode cX5_isFixing 34 = .ok (.iload 4, 2) := by decide +kernel
theorem dX5_isFixing_36 : decode cX5_isFixing 36 = .ok (.iconst 0, 1) := by decide +kernel
theorem dX5_isFixing_37 : decode cX5_isFixing 37 = .ok (.bipush 60, 2) := by decide +kernel
theorem dX5_isFixing_39 : decode cX5_isFixing 39 = .ok (.invokestatic 93, 3) := by decide +kernel
theorem dX5_isFixing_42 : decode cX5_isFixing 42 = .ok (.ifCond .eq 7, 3) := by decide +kernel
theorem dX5_isFixing_45 : decode cX5_isFixing 45 = .ok (.iconst 1, 1) := by decide +kernel
theorem dX5_isFixing_46 : decode cX5_isFixing 46 = .ok (.goto 4, 3) := by decide +kernel
theorem dX5_isFixing_49 : decode cX5_isFixing 49 = .ok (.iconst 0, 1) := by decide +kernel
theorem dX5_isFixing_50 : decode cX5_isFixing 50 = .ok (.ireturn, 1) := by decide +kernel
theorem dX5_fix_0 : decode cX5_fix 0 = .ok (.aload_n 0, 1) := by decide +kernel
theorem dX5_fix_1 : decode cX5_fix 1 = .ok (.aload_n 0, 1) := by decide +kernel
theorem dX5_fix_2 : decode cX5_fix 2 = .ok (.iload_n 1, 1) := by decide +kernel
theorem dX5_fix_3 : decode cX5_fix 3 = .ok (.invokevirtual 107, 3) := by decide +kernel
theorem dX5_fix_6 : decode cX5_fix 6 = .ok (.ifCond .eq 7, 3) := by decide +kernel
theorem dX5_fix_9 : decode cX5_fix 9 = .ok (.iconst 1, 1) := by decide +kernel
theorem dX5_fix_10 : decode cX5_fix 10 = .ok (.goto 53, 3) := by decide +kernel
theorem dX5_fix_13 : decode cX5_fix 13 = .ok (.aload_n 0, 1) := by decide +kernel
theorem dX5_fix_14 : decode cX5_fix 14 = .ok (.iload_n 2, 1) := by decide +kernel
theorem dX5_fix_15 : decode cX5_fix 15 = .ok (.invokevirtual 110, 3) := by decide +kernel
theorem dX5_fix_18 : decode cX5_fix 18 = .ok (.ifCond .ne 11, 3) := by decide +kernel
theorem dX5_fix_21 : decode cX5_fix 21 = .ok (.aload_n 0, 1) := by decide +kernel
theorem dX5_fix_22 : decode cX5_fix 22 = .ok (.iload_n 3, 1) := by decide +kernel
theorem dX5_fix_23 : decode cX5_fix 23 = .ok (.invokevirtual 110, 3) := by decide +kernel
theorem dX5_fix_26 : decode cX5_fix 26 = .ok (.ifCond .eq 7, 3) := by decide +kernel
theorem dX5_fix_29 : decode cX5_fix 29 = .ok (.iconst 2, 1) := by decide +kernel
theorem dX5_fix_30 : decode cX5_fix 30 = .ok (.goto 33, 3) := by decide +kernel
theorem dX5_fix_33 : decode cX5_fix 33 = .ok (.aload_n 0, 1) := by decide +kernel
theorem dX5_fix_34 : decode cX5_fix 34 = .ok (.iload_n 2, 1) := by decide +kernel
theorem dX5_fix_35 : decode cX5_fix 35 = .ok (.iload_n 3, 1) := by decide +kernel
theorem dX5_fix_36 : decode cX5_fix 36 = .ok (.iload 4, 2) := by decide +kernel
theorem dX5_fix_38 : decode cX5_fix 38 = .ok (.iload 5, 2) := by decide +kernel
theorem dX5_fix_40 : decode cX5_fix 40 = .ok (.invokevirtual 113, 3) := by decide +kernel
theorem dX5_fix_43 : decode cX5_fix 43 = .ok (.ifCond .ne 7, 3) := by decide +kernel
theorem dX5_fix_46 : decode cX5_fix 46 = .ok (.iconst 3, 1) := by decide +kernel
theorem dX5_fix_47 : decode cX5_fix 47 = .ok (.goto 16, 3) := by decide +kernel
theorem dX5_fix_50 : decode cX5_fix 50 = .ok (.aload_n 0, 1) := by decide +kernel
theorem dX5_fix_51 : decode cX5_fix 51 = .ok (.iload_n 1, 1) := by decide +kernel
theorem dX5_fix_52 : decode cX5_fix 52 = .ok (.invokevirtual 117, 3) := by decide +kernel
theorem dX5_fix_55 : decode cX5_fix 55 = .ok (.ifCond .lt 7, 3) := by decide +kernel
theorem dX5_fix_58 : decode cX5_fix 58 = .ok (.iconst 4, 1) := by decide +kernel
theorem dX5_fix_59 : decode cX5_fix 59 = .ok (.goto 4, 3) := by decide +kernel
theorem dX5_fix_62 : decode cX5_fix 62 = .ok (.iconst 0, 1) := by decide +kernel
theorem dX5_fix_63 : decode cX5_fix 63 = .ok (.invokevirtual 103, 3) := by decide +kernel
theorem dX5_fix_66 : decode cX5_fix 66 = .ok (.ifCond .eq 5, 3) := by decide +kernel
theorem dX5_fix_69 : decode cX5_fix 69 = .ok (.iconst 0, 1) := by decide +kernel
theorem dX5_fix_70 : decode cX5_fix 70 = .ok (.ireturn, 1) := by decide +kernel
theorem dX5_fix_71 : decode cX5_fix 71 = .ok (.aload_n 0, 1) := by decide +kernel
theorem dX5_fix_72 : decode cX5_fix 72 = .ok (.getfield 28, 3) := by decide +kernel
theorem dX5_fix_75 : decode cX5_fix 75 = .ok (.iload_n 1, 1) := by decide +kernel
theorem dX5_fix_76 : decode cX5_fix 76 = .ok (.iconst 1, 1) := by decide +kernel
theorem dX5_fix_77 : decode cX5_fix 77 = .ok (.bastore, 1) := by decide +kernel
theorem dX5_fix_78 : decode cX5_fix 78 = .ok (.aload_n 0, 1) := by decide +kernel
theorem dX5_fix_79 : decode cX5_fix 79 = .ok (.getfield 32, 3) := by decide +kernel
theorem dX5_fix_82 : decode cX5_fix 82 = .ok (.iload_n 1, 1) := by decide +kernel
theorem dX5_fix_83 : decode cX5_fix 83 = .ok (.iload_n 2, 1) := by decide +kernel
theorem dX5_fix_84 : decode cX5_fix 84 = .ok (.iastore, 1) := by decide +kernel
theorem dX5_fix_85 : decode cX5_fix 85 = .ok (.aload_n 0, 1) := by decide +kernel
theorem dX5_fix_86 : decode cX5_fix 86 = .ok (.getfield 35, 3) := by decide +kernel
theorem dX5_fix_89 : decode cX5_fix 89 = .ok (.iload_n 1, 1) := by decide +kernel
theorem dX5_fix_90 : decode cX5_fix 90 = .ok (.iload_n 3, 1) := by decide +kernel
theorem dX5_fix_91 : decode cX5_fix 91 = .ok (.iastore, 1) := by decide +kernel
theorem dX5_fix_92 : decode cX5_fix 92 = .ok (.aload_n 0, 1) := by decide +kernel
theorem dX5_fix_93 : decode cX5_fix 93 = .ok (.getfield 38, 3) := by decide +kernel
theorem dX5_fix_96 : decode cX5_fix 96 = .ok (.iload_n 1, 1) := by decide +kernel
theorem dX5_fix_97 : decode cX5_fix 97 = .ok (.iload 4, 2) := by decide +kernel
theorem dX5_fix_99 : decode cX5_fix 99 = .ok (.iastore, 1) := by decide +kernel
theorem dX5_fix_100 : decode cX5_fix 100 = .ok (.aload_n 0, 1) := by decide +kernel
theorem dX5_fix_101 : decode cX5_fix 101 = .ok (.getfield 41, 3) := by decide +kernel
theorem dX5_fix_104 : decode cX5_fix 104 = .ok (.iload_n 1, 1) := by decide +kernel
theorem dX5_fix_105 : decode cX5_fix 105 = .ok (.iload 5, 2) := by decide +kernel
theorem dX5_fix_107 : decode cX5_fix 107 = .ok (.iastore, 1) := by decide +kernel
theorem dX5_fix_108 : decode cX5_fix 108 = .ok (.aload_n 0, 1) := by decide +kernel
theorem dX5_fix_109 : decode cX5_fix 109 = .ok (.iload_n 1, 1) := by decide +kernel
theorem dX5_fix_110 : decode cX5_fix 110 = .ok (.invokevirtual 121, 3) := by decide +kernel
theorem dX5_fix_113 : decode cX5_fix 113 = .ok (.ireturn, 1) := by decide +kernel
theorem dX5_needsAtLast_0 : decode cX5_needsAtLast 0 = .ok (.iconst 0, 1) := by decide +kernel
theorem dX5_needsAtLast_1 : decode cX5_needsAtLast 1 = .ok (.istore_n 3, 1) := by decide +kernel
theorem dX5_needsAtLast_2 : decode cX5_needsAtLast 2 = .ok (.iload_n 3, 1) := by decide +kernel
theorem dX5_needsAtLast_3 : decode cX5_needsAtLast 3 = .ok (.aload_n 0, 1) := by decide +kernel
theorem dX5_needsAtLast_4 : decode cX5_needsAtLast 4 = .ok (.getfield 97, 3) := by decide +kernel
theorem dX5_needsAtLast_7 : decode cX5_needsAtLast 7 = .ok (.if_icmp .ge 39, 3) := by decide +kernel
theorem dX5_needsAtLast_10 : decode cX5_needsAtLast 10 = .ok (.aload_n 0, 1) := by decide +kernel
theorem dX5_needsAtLast_11 : decode cX5_needsAtLast 11 = .ok (.getfield 44, 3) := by decide +kernel
theorem dX5_needsAtLast_14 : decode cX5_needsAtLast 14 = .ok (.iload_n 1, 1) := by decide +kernel
theorem dX5_needsAtLast_15 : decode cX5_needsAtLast 15 = .ok (.iaload, 1) := by decide +kernel
theorem dX5_needsAtLast_16 : decode cX5_needsAtLast 16 = .ok (.iload_n 3, 1) := by decide +kernel
theorem dX5_needsAtLast_17 : decode cX5_needsAtLast 17 = .ok (.ishr, 1) := by decide +kernel
theorem dX5_needsAtLast_18 : decode cX5_needsAtLast 18 = .ok (.iconst 1, 1) := by decide +kernel
theorem dX5_needsAtLast_19 : decode cX5_needsAtLast 19 = .ok (.iand, 1) := by decide +kernel
theorem dX5_needsAtLast_20 : decode cX5_needsAtLast 20 = .ok (.iconst 1, 1) := by decide +kernel
theorem dX5_needsAtLast_21 : decode cX5_needsAtLast 21 = .ok (.if_icmp .ne 19, 3) := by decide +kernel
theorem dX5_needsAtLast_24 : decode cX5_needsAtLast 24 = .ok (.iload_n 3, 1) := by decide +kernel
theorem dX5_needsAtLast_25 : decode cX5_needsAtLast 25 = .ok (.iload_n 2, 1) := by decide +kernel
theorem dX5_needsAtLast_26 : decode cX5_needsAtLast 26 = .ok (.if_icmp .eq 12, 3) := by decide +kernel
theorem dX5_needsAtLast_29 : decode cX5_needsAtLast 29 = .ok (.aload_n 0, 1) := by decide +kernel
theorem dX5_needsAtLast_30 : decode cX5_needsAtLast 30 = .ok (.iload_n 3, 1) := by decide +kernel
theorem dX5_needsAtLast_31 : decode cX5_needsAtLast 31 = .ok (.iload_n 2, 1) := by decide +kernel
theorem dX5_needsAtLast_32 : decode cX5_needsAtLast 32 = .ok (.invokevirtual 124, 3) := by decide +kernel
theorem dX5_needsAtLast_35 : decode cX5_needsAtLast 35 = .ok (.ifCond .eq 5, 3) := by decide +kernel
theorem dX5_needsAtLast_38 : decode cX5_needsAtLast 38 = .ok (.iconst 1, 1) := by decide +kernel
theorem dX5_needsAtLast_39 : decode cX5_needsAtLast 39 = .ok (.ireturn, 1) := by decide +kernel
theorem dX5_needsAtLast_40 : decode cX5_needsAtLast 40 = .ok (.iinc 3 1, 3) := by decide +kernel
theorem dX5_needsAtLast_43 : decode cX5_needsAtLast 43 = .ok (.goto (-41), 3) := by decide +kernel
theorem dX5_needsAtLast_46 : decode cX5_needsAtLast 46 = .ok (.iconst 0, 1) := by decide +kernel
theorem dX5_needsAtLast_47 : decode cX5_needsAtLast 47 = .ok (.ireturn, 1) := by decide +kernel
theorem dX5_need_0 : decode cX5_need 0 = .ok (.aload_n 0, 1) := by decide +kernel
theorem dX5_need_1 : decode cX5_need 1 = .ok (.aload_n 0, 1) := by decide +kernel
theorem dX5_need_2 : decode cX5_need 2 = .ok (.iload_n 1, 1) := by decide +kernel
theorem dX5_need_3 : decode cX5_need 3 = .ok (.invokevirtual 107, 3) := by decide +kernel
theorem dX5_need_6 : decode cX5_need 6 = .ok (.ifCond .ne 11, 3) := by decide +kernel
theorem dX5_need_9 : decode cX5_need 9 = .ok (.aload_n 0, 1) := by decide +kernel
theorem dX5_need_10 : decode cX5_need 10 = .ok (.iload_n 2, 1) := by decide +kernel
theorem dX5_need_11 : decode cX5_need 11 = .ok (.invokevirtual 107, 3) := by decide +kernel
theorem dX5_need_14 : decode cX5_need 14 = .ok (.ifCond .eq 7, 3) := by decide +kernel
theorem dX5_need_17 : decode cX5_need 17 = .ok (.iconst 1, 1) := by decide +kernel
theorem dX5_need_18 : decode cX5_need 18 = .ok (.goto 38, 3) := by decide +kernel
theorem dX5_need_21 : decode cX5_need 21 = .ok (.iload_n 1, 1) := by decide +kernel
theorem dX5_need_22 : decode cX5_need 22 = .ok (.iload_n 2, 1) := by decide +kernel
theorem dX5_need_23 : decode cX5_need 23 = .ok (.if_icmp .ne 7, 3) := by decide +kernel
theorem dX5_need_26 : decode cX5_need 26 = .ok (.iconst 2, 1) := by decide +kernel
theorem dX5_need_27 : decode cX5_need 27 = .ok (.goto 29, 3) := by decide +kernel
theorem dX5_need_30 : decode cX5_need 30 = .ok (.aload_n 0, 1) := by decide +kernel
theorem dX5_need_31 : decode cX5_need 31 = .ok (.iload_n 2, 1) := by decide +kernel
theorem dX5_need_32 : decode cX5_need 32 = .ok (.iload_n 1, 1) := by decide +kernel
theorem dX5_need_33 : decode cX5_need 33 = .ok (.invokevirtual 124, 3) := by decide +kernel
theorem dX5_need_36 : decode cX5_need 36 = .ok (.ifCond .eq 7, 3) := by decide +kernel
theorem dX5_need_39 : decode cX5_need 39 = .ok (.iconst 3, 1) := by decide +kernel
theorem dX5_need_40 : decode cX5_need 40 = .ok (.goto 16, 3) := by decide +kernel
theorem dX5_need_43 : decode cX5_need 43 = .ok (.aload_n 0, 1) := by decide +kernel
theorem dX5_need_44 : decode cX5_need 44 = .ok (.iload_n 1, 1) := by decide +kernel
theorem dX5_need_45 : decode cX5_need 45 = .ok (.invokevirtual 117, 3) := by decide +kernel
theorem dX5_need_48 : decode cX5_need 48 = .ok (.ifCond .lt 7, 3) := by decide +kernel
theorem dX5_need_51 : decode cX5_need 51 = .ok (.iconst 4, 1) := by decide +kernel
theorem dX5_need_52 : decode cX5_need 52 = .ok (.goto 4, 3) := by decide +kernel
theorem dX5_need_55 : decode cX5_need 55 = .ok (.iconst 0, 1) := by decide +kernel
theorem dX5_need_56 : decode cX5_need 56 = .ok (.invokevirtual 103, 3) := by decide +kernel
theorem dX5_need_59 : decode cX5_need 59 = .ok (.ifCond .eq 5, 3) := by decide +kernel
theorem dX5_need_62 : decode cX5_need 62 = .ok (.iconst 0, 1) := by decide +kernel
theorem dX5_need_63 : decode cX5_need 63 = .ok (.ireturn, 1) := by decide +kernel
theorem dX5_need_64 : decode cX5_need 64 = .ok (.aload_n 0, 1) := by decide +kernel
theorem dX5_need_65 : decode cX5_need 65 = .ok (.getfield 44, 3) := by decide +kernel
theorem dX5_need_68 : decode cX5_need 68 = .ok (.iload_n 1, 1) := by decide +kernel
theorem dX5_need_69 : decode cX5_need 69 = .ok (.dup2, 1) := by decide +kernel
theorem dX5_need_70 : decode cX5_need 70 = .ok (.iaload, 1) := by decide +kernel
theorem dX5_need_71 : decode cX5_need 71 = .ok (.iconst 1, 1) := by decide +kernel
theorem dX5_need_72 : decode cX5_need 72 = .ok (.iload_n 2, 1) := by decide +kernel
theorem dX5_need_73 : decode cX5_need 73 = .ok (.ishl, 1) := by decide +kernel
theorem dX5_need_74 : decode cX5_need 74 = .ok (.ior, 1) := by decide +kernel
theorem dX5_need_75 : decode cX5_need 75 = .ok (.iastore, 1) := by decide +kernel
theorem dX5_need_76 : decode cX5_need 76 = .ok (.iconst 0, 1) := by decide +kernel
theorem dX5_need_77 : decode cX5_need 77 = .ok (.istore_n 3, 1) := by decide +kernel
theorem dX5_need_78 : decode cX5_need 78 = .ok (.iconst 0, 1) := by decide +kernel
theorem dX5_need_79 : decode cX5_need 79 = .ok (.istore 4, 2) := by decide +kernel
theorem dX5_need_81 : decode cX5_need 81 = .ok (.iload 4, 2) := by decide +kernel
theorem dX5_need_83 : decode cX5_need 83 = .ok (.aload_n 0, 1) := by decide +kernel
theorem dX5_need_84 : decode cX5_need 84 = .ok (.getfield 97, 3) := by decide +kernel
theorem dX5_need_87 : decode cX5_need 87 = .ok (.if_icmp .ge 23, 3) := by decide +kernel
theorem dX5_need_90 : decode cX5_need 90 = .ok (.iload_n 3, 1) := by decide +kernel
theorem dX5_need_91 : decode cX5_need 91 = .ok (.aload_n 0, 1) := by decide +kernel
theorem dX5_need_92 : decode cX5_need 92 = .ok (.getfield 44, 3) := by decide +kernel
theorem dX5_need_95 : decode cX5_need 95 = .ok (.iload_n 1, 1) := by decide +kernel
theorem dX5_need_96 : decode cX5_need 96 = .ok (.iaload, 1) := by decide +kernel
theorem dX5_need_97 : decode cX5_need 97 = .ok (.iload 4, 2) := by decide +kernel
theorem dX5_need_99 : decode cX5_need 99 = .ok (.ishr, 1) := by decide +kernel
theorem dX5_need_100 : decode cX5_need 100 = .ok (.iconst 1, 1) := by decide +kernel
theorem dX5_need_101 : decode cX5_need 101 = .ok (.iand, 1) := by decide +kernel
theorem dX5_need_102 : decode cX5_need 102 = .ok (.iadd, 1) := by decide +kernel
theorem dX5_need_103 : decode cX5_need 103 = .ok (.istore_n 3, 1) := by decide +kernel
theorem dX5_need_104 : decode cX5_need 104 = .ok (.iinc 4 1, 3) := by decide +kernel
theorem dX5_need_107 : decode cX5_need 107 = .ok (.goto (-26), 3) := by decide +kernel
theorem dX5_need_110 : decode cX5_need 110 = .ok (.iload_n 3, 1) := by decide +kernel
theorem dX5_need_111 : decode cX5_need 111 = .ok (.ireturn, 1) := by decide +kernel
theorem dX5_isBusy_0 : decode cX5_isBusy 0 = .ok (.iconst 0, 1) := by decide +kernel
theorem dX5_isBusy_1 : decode cX5_isBusy 1 = .ok (.istore_n 2, 1) := by decide +kernel
theorem dX5_isBusy_2 : decode cX5_isBusy 2 = .ok (.iload_n 2, 1) := by decide +kernel
theorem dX5_isBusy_3 : decode cX5_isBusy 3 = .ok (.aload_n 0, 1) := by decide +kernel
theorem dX5_isBusy_4 : decode cX5_isBusy 4 = .ok (.getfield 100, 3) := by decide +kernel
theorem dX5_isBusy_7 : decode cX5_isBusy 7 = .ok (.if_icmp .ge 26, 3) := by decide +kernel
theorem dX5_isBusy_10 : decode cX5_isBusy 10 = .ok (.aload_n 0, 1) := by decide +kernel
theorem dX5_isBusy_11 : decode cX5_isBusy 11 = .ok (.getfield 25, 3) := by decide +kernel
theorem dX5_isBusy_14 : decode cX5_isBusy 14 = .ok (.aload_n 0, 1) := by decide +kernel
theorem dX5_isBusy_15 : decode cX5_isBusy 15 = .ok (.getfield 75, 3) := by decide +kernel
theorem dX5_isBusy_18 : decode cX5_isBusy 18 = .ok (.iload_n 2, 1) := by decide +kernel
theorem dX5_isBusy_19 : decode cX5_isBusy 19 = .ok (.iaload, 1) := by decide +kernel
theorem dX5_isBusy_20 : decode cX5_isBusy 20 = .ok (.iaload, 1) := by decide +kernel
theorem dX5_isBusy_21 : decode cX5_isBusy 21 = .ok (.iload_n 1, 1) := by decide +kernel
theorem dX5_isBusy_22 : decode cX5_isBusy 22 = .ok (.if_icmp .ne 5, 3) := by decide +kernel
theorem dX5_isBusy_25 : decode cX5_isBusy 25 = .ok (.iconst 1, 1) := by decide +kernel
theorem dX5_isBusy_26 : decode cX5_isBusy 26 = .ok (.ireturn, 1) := by decide +kernel
theorem dX5_isBusy_27 : decode cX5_isBusy 27 = .ok (.iinc 2 1, 3) := by decide +kernel
theorem dX5_isBusy_30 : decode cX5_isBusy 30 = .ok (.goto (-28), 3) := by decide +kernel
theorem dX5_isBusy_33 : decode cX5_isBusy 33 = .ok (.iconst 0, 1) := by decide +kernel
theorem dX5_isBusy_34 : decode cX5_isBusy 34 = .ok (.ireturn, 1) := by decide +kernel
theorem dX5_setArrival_0 : decode cX5_setArrival 0 = .ok (.aload_n 0, 1) := by decide +kernel
theorem dX5_setArrival_1 : decode cX5_setArrival 1 = .ok (.iload_n 1, 1) := by decide +kernel
theorem dX5_setArrival_2 : decode cX5_setArrival 2 = .ok (.iconst 0, 1) := by decide +kernel
theorem dX5_setArrival_3 : decode cX5_setArrival 3 = .ok (.iconst 2, 1) := by decide +kernel
theorem dX5_setArrival_4 : decode cX5_setArrival 4 = .ok (.invokestatic 93, 3) := by decide +kernel
theorem dX5_setArrival_7 : decode cX5_setArrival 7 = .ok (.ifCond .ne 7, 3) := by decide +kernel
theorem dX5_setArrival_10 : decode cX5_setArrival 10 = .ok (.iconst 1, 1) := by decide +kernel
theorem dX5_setArrival_11 : decode cX5_setArrival 11 = .ok (.goto 31, 3) := by decide +kernel
theorem dX5_setArrival_14 : decode cX5_setArrival 14 = .ok (.iload_n 2, 1) := by decide +kernel
theorem dX5_setArrival_15 : decode cX5_setArrival 15 = .ok (.iconst 0, 1) := by decide +kernel
theorem dX5_setArrival_16 : decode cX5_setArrival 16 = .ok (.sipush 1440, 3) := by decide +kernel
theorem dX5_setArrival_19 : decode cX5_setArrival 19 = .ok (.invokestatic 93, 3) := by decide +kernel
theorem dX5_setArrival_22 : decode cX5_setArrival 22 = .ok (.ifCond .ne 7, 3) := by decide +kernel
theorem dX5_setArrival_25 : decode cX5_setArrival 25 = .ok (.iconst 2, 1) := by decide +kernel
theorem dX5_setArrival_26 : decode cX5_setArrival 26 = .ok (.goto 16, 3) := by decide +kernel
theorem dX5_setArrival_29 : decode cX5_setArrival 29 = .ok (.aload_n 0, 1) := by decide +kernel
theorem dX5_setArrival_30 : decode cX5_setArrival 30 = .ok (.iload_n 1, 1) := by decide +kernel
theorem dX5_setArrival_31 : decode cX5_setArrival 31 = .ok (.invokevirtual 128, 3) := by decide +kernel
theorem dX5_setArrival_34 : decode cX5_setArrival 34 = .ok (.ifCond .eq 7, 3) := by decide +kernel
theorem dX5_setArrival_37 : decode cX5_setArrival 37 = .ok (.iconst 3, 1) := by decide +kernel
theorem dX5_setArrival_38 : decode cX5_setArrival 38 = .ok (.goto 4, 3) := by decide +kernel
theorem dX5_setArrival_41 : decode cX5_setArrival 41 = .ok (.iconst 0, 1) := by decide +kernel
theorem dX5_setArrival_42 : decode cX5_setArrival 42 = .ok (.invokevirtual 103, 3) := by decide +kernel
theorem dX5_setArrival_45 : decode cX5_setArrival 45 = .ok (.ifCond .eq 5, 3) := by decide +kernel
theorem dX5_setArrival_48 : decode cX5_setArrival 48 = .ok (.iconst 0, 1) := by decide +kernel
theorem dX5_setArrival_49 : decode cX5_setArrival 49 = .ok (.ireturn, 1) := by decide +kernel
theorem dX5_setArrival_50 : decode cX5_setArrival 50 = .ok (.aload_n 0, 1) := by decide +kernel
theorem dX5_setArrival_51 : decode cX5_setArrival 51 = .ok (.getfield 47, 3) := by decide +kernel
theorem dX5_setArrival_54 : decode cX5_setArrival 54 = .ok (.iload_n 1, 1) := by decide +kernel
theorem dX5_setArrival_55 : decode cX5_setArrival 55 = .ok (.iaload, 1) := by decide +kernel
theorem dX5_setArrival_56 : decode cX5_setArrival 56 = .ok (.istore_n 3, 1) := by decide +kernel
theorem dX5_setArrival_57 : decode cX5_setArrival 57 = .ok (.aload_n 0, 1) := by decide +kernel
theorem dX5_setArrival_58 : decode cX5_setArrival 58 = .ok (.getfield 47, 3) := by decide +kernel
theorem dX5_setArrival_61 : decode cX5_setArrival 61 = .ok (.iload_n 1, 1) := by decide +kernel
theorem dX5_setArrival_62 : decode cX5_setArrival 62 = .ok (.iload_n 2, 1) := by decide +kernel
theorem dX5_setArrival_63 : decode cX5_setArrival 63 = .ok (.iastore, 1) := by decide +kernel
theorem dX5_setArrival_64 : decode cX5_setArrival 64 = .ok (.iload_n 3, 1) := by decide +kernel
theorem dX5_setArrival_65 : decode cX5_setArrival 65 = .ok (.ireturn, 1) := by decide +kernel
theorem dX5_addTown_0 : decode cX5_addTown 0 = .ok (.iload_n 1, 1) := by decide +kernel
theorem dX5_addTown_1 : decode cX5_addTown 1 = .ok (.bipush 10, 2) := by decide +kernel
theorem dX5_addTown_3 : decode cX5_addTown 3 = .ok (.bipush 100, 2) := by decide +kernel
theorem dX5_addTown_5 : decode cX5_addTown 5 = .ok (.invokestatic 93, 3) := by decide +kernel
theorem dX5_addTown_8 : decode cX5_addTown 8 = .ok (.ifCond .eq 42, 3) := by decide +kernel
theorem dX5_addTown_11 : decode cX5_addTown 11 = .ok (.iload_n 2, 1) := by decide +kernel
theorem dX5_addTown_12 : decode cX5_addTown 12 = .ok (.bipush 30, 2) := by decide +kernel
theorem dX5_addTown_14 : decode cX5_addTown 14 = .ok (.sipush 480, 3) := by decide +kernel
theorem dX5_addTown_17 : decode cX5_addTown 17 = .ok (.invokestatic 93, 3) := by decide +kernel
theorem dX5_addTown_20 : decode cX5_addTown 20 = .ok (.ifCond .eq 30, 3) := by decide +kernel
theorem dX5_addTown_23 : decode cX5_addTown 23 = .ok (.iload_n 3, 1) := by decide +kernel
theorem dX5_addTown_24 : decode cX5_addTown 24 = .ok (.iconst 5, 1) := by decide +kernel
theorem dX5_addTown_25 : decode cX5_addTown 25 = .ok (.bipush 120, 2) := by decide +kernel
theorem dX5_addTown_27 : decode cX5_addTown 27 = .ok (.invokestatic 93, 3) := by decide +kernel
theorem dX5_addTown_30 : decode cX5_addTown 30 = .ok (.ifCond .eq 20, 3) := by decide +kernel
theorem dX5_addTown_33 : decode cX5_addTown 33 = .ok (.iload 4, 2) := by decide +kernel
theorem dX5_addTown_35 : decode cX5_addTown 35 = .ok (.bipush 60, 2) := by decide +kernel
theorem dX5_addTown_37 : decode cX5_addTown 37 = .ok (.sipush 1440, 3) := by decide +kernel
theorem dX5_addTown_40 : decode cX5_addTown 40 = .ok (.invokestatic 93, 3) := by decide +kernel
theorem dX5_addTown_43 : decode cX5_addTown 43 = .ok (.ifCond .eq 7, 3) := by decide +kernel
theorem dX5_addTown_46 : decode cX5_addTown 46 = .ok (.iconst 1, 1) := by decide +kernel
theorem dX5_addTown_47 : decode cX5_addTown 47 = .ok (.goto 4, 3) := by decide +kernel
theorem dX5_addTown_50 : decode cX5_addTown 50 = .ok (.iconst 0, 1) := by decide +kernel
theorem dX5_addTown_51 : decode cX5_addTown 51 = .ok (.istore 5, 2) := by decide +kernel
theorem dX5_addTown_53 : decode cX5_addTown 53 = .ok (.aload_n 0, 1) := by decide +kernel
theorem dX5_addTown_54 : decode cX5_addTown 54 = .ok (.iload 5, 2) := by decide +kernel
theorem dX5_addTown_56 : decode cX5_addTown 56 = .ok (.ifCond .ne 7, 3) := by decide +kernel
theorem dX5_addTown_59 : decode cX5_addTown 59 = .ok (.iconst 1, 1) := by decide +kernel
theorem dX5_addTown_60 : decode cX5_addTown 60 = .ok (.goto 16, 3) := by decide +kernel
theorem dX5_addTown_63 : decode cX5_addTown 63 = .ok (.aload_n 0, 1) := by decide +kernel
theorem dX5_addTown_64 : decode cX5_addTown 64 = .ok (.getfield 131, 3) := by decide +kernel
theorem dX5_addTown_67 : decode cX5_addTown 67 = .ok (.iconst 4, 1) := by decide +kernel
theorem dX5_addTown_68 : decode cX5_addTown 68 = .ok (.if_icmp .ne 7, 3) := by decide +kernel
theorem dX5_addTown_71 : decode cX5_addTown 71 = .ok (.iconst 2, 1) := by decide +kernel
theorem dX5_addTown_72 : decode cX5_addTown 72 = .ok (.goto 4, 3) := by decide +kernel
theorem dX5_addTown_75 : decode cX5_addTown 75 = .ok (.iconst 0, 1) := by decide +kernel
theorem dX5_addTown_76 : decode cX5_addTown 76 = .ok (.invokevirtual 103, 3) := by decide +kernel
theorem dX5_addTown_79 : decode cX5_addTown 79 = .ok (.ifCond .eq 5, 3) := by decide +kernel
theorem dX5_addTown_82 : decode cX5_addTown 82 = .ok (.iconst 0, 1) := by decide +kernel
theorem dX5_addTown_83 : decode cX5_addTown 83 = .ok (.ireturn, 1) := by decide +kernel
theorem dX5_addTown_84 : decode cX5_addTown 84 = .ok (.aload_n 0, 1) := by decide +kernel
theorem dX5_addTown_85 : decode cX5_addTown 85 = .ok (.getfield 50, 3) := by decide +kernel
theorem dX5_addTown_88 : decode cX5_addTown 88 = .ok (.aload_n 0, 1) := by decide +kernel
theorem dX5_addTown_89 : decode cX5_addTown 89 = .ok (.getfield 131, 3) := by decide +kernel
theorem dX5_addTown_92 : decode cX5_addTown 92 = .ok (.iload_n 1, 1) := by decide +kernel
theorem dX5_addTown_93 : decode cX5_addTown 93 = .ok (.iastore, 1) := by decide +kernel
theorem dX5_addTown_94 : decode cX5_addTown 94 = .ok (.aload_n 0, 1) := by decide +kernel
theorem dX5_addTown_95 : decode cX5_addTown 95 = .ok (.getfield 53, 3) := by decide +kernel
theorem dX5_addTown_98 : decode cX5_addTown 98 = .ok (.aload_n 0, 1) := by decide +kernel
theorem dX5_addTown_99 : decode cX5_addTown 99 = .ok (.getfield 131, 3) := by decide +kernel
theorem dX5_addTown_102 : decode cX5_addTown 102 = .ok (.iload_n 2, 1) := by decide +kernel
theorem dX5_addTown_103 : decode cX5_addTown 103 = .ok (.iastore, 1) := by decide +kernel
theorem dX5_addTown_104 : decode cX5_addTown 104 = .ok (.aload_n 0, 1) := by decide +kernel
theorem dX5_addTown_105 : decode cX5_addTown 105 = .ok (.getfield 56, 3) := by decide +kernel
theorem dX5_addTown_108 : decode cX5_addTown 108 = .ok (.aload_n 0, 1) := by decide +kernel
theorem dX5_addTown_109 : decode cX5_addTown 109 = .ok (.getfield 131, 3) := by decide +kernel
theorem dX5_addTown_112 : decode cX5_addTown 112 = .ok (.iload_n 3, 1) := by decide +kernel
theorem dX5_addTown_113 : decode cX5_addTown 113 = .ok (.iastore, 1) := by decide +kernel
theorem dX5_addTown_114 : decode cX5_addTown 114 = .ok (.aload_n 0, 1) := by decide +kernel
theorem dX5_addTown_115 : decode cX5_addTown 115 = .ok (.getfield 59, 3) := by decide +kernel
theorem dX5_addTown_118 : decode cX5_addTown 118 = .ok (.aload_n 0, 1) := by decide +kernel
theorem dX5_addTown_119 : decode cX5_addTown 119 = .ok (.getfield 131, 3) := by decide +kernel
theorem dX5_addTown_122 : decode cX5_addTown 122 = .ok (.iload 4, 2) := by decide +kernel
theorem dX5_addTown_124 : decode cX5_addTown 124 = .ok (.iastore, 1) := by decide +kernel
theorem dX5_addTown_125 : decode cX5_addTown 125 = .ok (.aload_n 0, 1) := by decide +kernel
theorem dX5_addTown_126 : decode cX5_addTown 126 = .ok (.dup, 1) := by decide +kernel
theorem dX5_addTown_127 : decode cX5_addTown 127 = .ok (.getfield 131, 3) := by decide +kernel
theorem dX5_addTown_130 : decode cX5_addTown 130 = .ok (.iconst 1, 1) := by decide +kernel
theorem dX5_addTown_131 : decode cX5_addTown 131 = .ok (.iadd, 1) := by decide +kernel
theorem dX5_addTown_132 : decode cX5_addTown 132 = .ok (.putfield 131, 3) := by decide +kernel
theorem dX5_addTown_135 : decode cX5_addTown 135 = .ok (.aload_n 0, 1) := by decide +kernel
theorem dX5_addTown_136 : decode cX5_addTown 136 = .ok (.getfield 131, 3) := by decide +kernel
theorem dX5_addTown_139 : decode cX5_addTown 139 = .ok (.iconst 1, 1) := by decide +kernel
theorem dX5_addTown_140 : decode cX5_addTown 140 = .ok (.isub, 1) := by decide +kernel
theorem dX5_addTown_141 : decode cX5_addTown 141 = .ok (.ireturn, 1) := by decide +kernel
theorem dX5_isNoTown_0 : decode cX5_isNoTown 0 = .ok (.iload_n 1, 1) := by decide +kernel
theorem dX5_isNoTown_1 : decode cX5_isNoTown 1 = .ok (.iconst 0, 1) := by decide +kernel
theorem dX5_isNoTown_2 : decode cX5_isNoTown 2 = .ok (.aload_n 0, 1) := by decide +kernel
theorem dX5_isNoTown_3 : decode cX5_isNoTown 3 = .ok (.getfield 131, 3) := by decide +kernel
theorem dX5_isNoTown_6 : decode cX5_isNoTown 6 = .ok (.iconst 1, 1) := by decide +kernel
theorem dX5_isNoTown_7 : decode cX5_isNoTown 7 = .ok (.isub, 1) := by decide +kernel
theorem dX5_isNoTown_8 : decode cX5_isNoTown 8 = .ok (.invokestatic 93, 3) := by decide +kernel
theorem dX5_isNoTown_11 : decode cX5_isNoTown 11 = .ok (.ifCond .ne 7, 3) := by decide +kernel
theorem dX5_isNoTown_14 : decode cX5_isNoTown 14 = .ok (.iconst 1, 1) := by decide +kernel
theorem dX5_isNoTown_15 : decode cX5_isNoTown 15 = .ok (.goto 4, 3) := by decide +kernel
theorem dX5_isNoTown_18 : decode cX5_isNoTown 18 = .ok (.iconst 0, 1) := by decide +kernel
theorem dX5_isNoTown_19 : decode cX5_isNoTown 19 = .ok (.ireturn, 1) := by decide +kernel
theorem dX5_setRates_0 : decode cX5_setRates 0 = .ok (.aload_n 0, 1) := by decide +kernel
theorem dX5_setRates_1 : decode cX5_setRates 1 = .ok (.aload_n 0, 1) := by decide +kernel
theorem dX5_setRates_2 : decode cX5_setRates 2 = .ok (.iload_n 1, 1) := by decide +kernel
theorem dX5_setRates_3 : decode cX5_setRates 3 = .ok (.invokevirtual 134, 3) := by decide +kernel
theorem dX5_setRates_6 : decode cX5_setRates 6 = .ok (.ifCond .eq 7, 3) := by decide +kernel
theorem dX5_setRates_9 : decode cX5_setRates 9 = .ok (.iconst 1, 1) := by decide +kernel
theorem dX5_setRates_10 : decode cX5_setRates 10 = .ok (.goto 40, 3) := by decide +kernel
theorem dX5_setRates_13 : decode cX5_setRates 13 = .ok (.iload_n 2, 1) := by decide +kernel
theorem dX5_setRates_14 : decode cX5_setRates 14 = .ok (.iconst 0, 1) := by decide +kernel
theorem dX5_setRates_15 : decode cX5_setRates 15 = .ok (.bipush 99, 2) := by decide +kernel
theorem dX5_setRates_17 : decode cX5_setRates 17 = .ok (.invokestatic 93, 3) := by decide +kernel
theorem dX5_setRates_20 : decode cX5_setRates 20 = .ok (.ifCond .eq 29, 3) := by decide +kernel
theorem dX5_setRates_23 : decode cX5_setRates 23 = .ok (.iload_n 3, 1) := by decide +kernel
theorem dX5_setRates_24 : decode cX5_setRates 24 = .ok (.iconst 0, 1) := by decide +kernel
theorem dX5_setRates_25 : decode cX5_setRates 25 = .ok (.sipush 1440, 3) := by decide +kernel
theorem dX5_setRates_28 : decode cX5_setRates 28 = .ok (.invokestatic 93, 3) := by decide +kernel
theorem dX5_setRates_31 : decode cX5_setRates 31 = .ok (.ifCond .eq 18, 3) := by decide +kernel
theorem dX5_setRates_34 : decode cX5_setRates 34 = .ok (.iload 4, 2) := by decide +kernel
theorem dX5_setRates_36 : decode cX5_setRates 36 = .ok (.iconst 0, 1) := by decide +kernel
theorem dX5_setRates_37 : decode cX5_setRates 37 = .ok (.bipush 99, 2) := by decide +kernel
theorem dX5_setRates_39 : decode cX5_setRates 39 = .ok (.invokestatic 93, 3) := by decide +kernel
theorem dX5_setRates_42 : decode cX5_setRates 42 = .ok (.ifCond .eq 7, 3) := by decide +kernel
theorem dX5_setRates_45 : decode cX5_setRates 45 = .ok (.iconst 0, 1) := by decide +kernel
theorem dX5_setRates_46 : decode cX5_setRates 46 = .ok (.goto 4, 3) := by decide +kernel
theorem dX5_setRates_49 : decode cX5_setRates 49 = .ok (.iconst 2, 1) := by decide +kernel
theorem dX5_setRates_50 : decode cX5_setRates 50 = .ok (.invokevirtual 103, 3) := by decide +kernel
theorem dX5_setRates_53 : decode cX5_setRates 53 = .ok (.ifCond .eq 5, 3) := by decide +kernel
theorem dX5_setRates_56 : decode cX5_setRates 56 = .ok (.iconst 0, 1) := by decide +kernel
theorem dX5_setRates_57 : decode cX5_setRates 57 = .ok (.ireturn, 1) := by decide +kernel
theorem dX5_setRates_58 : decode cX5_setRates 58 = .ok (.aload_n 0, 1) := by decide +kernel
theorem dX5_setRates_59 : decode cX5_setRates 59 = .ok (.getfield 62, 3) := by decide +kernel
theorem dX5_setRates_62 : decode cX5_setRates 62 = .ok (.iload_n 1, 1) := by decide +kernel
theorem dX5_setRates_63 : decode cX5_setRates 63 = .ok (.iaload, 1) := by decide +kernel
theorem dX5_setRates_64 : decode cX5_setRates 64 = .ok (.istore 5, 2) := by decide +kernel
theorem dX5_setRates_66 : decode cX5_setRates 66 = .ok (.aload_n 0, 1) := by decide +kernel
theorem dX5_setRates_67 : decode cX5_setRates 67 = .ok (.getfield 62, 3) := by decide +kernel
theorem dX5_setRates_70 : decode cX5_setRates 70 = .ok (.iload_n 1, 1) := by decide +kernel
theorem dX5_setRates_71 : decode cX5_setRates 71 = .ok (.iload_n 2, 1) := by decide +kernel
theorem dX5_setRates_72 : decode cX5_setRates 72 = .ok (.iastore, 1) := by decide +kernel
theorem dX5_setRates_73 : decode cX5_setRates 73 = .ok (.aload_n 0, 1) := by decide +kernel
theorem dX5_setRates_74 : decode cX5_setRates 74 = .ok (.getfield 65, 3) := by decide +kernel
theorem dX5_setRates_77 : decode cX5_setRates 77 = .ok (.iload_n 1, 1) := by decide +kernel
theorem dX5_setRates_78 : decode cX5_setRates 78 = .ok (.iload_n 3, 1) := by decide +kernel
theorem dX5_setRates_79 : decode cX5_setRates 79 = .ok (.iastore, 1) := by decide +kernel
theorem dX5_setRates_80 : decode cX5_setRates 80 = .ok (.aload_n 0, 1) := by decide +kernel
theorem dX5_setRates_81 : decode cX5_setRates 81 = .ok (.getfield 68, 3) := by decide +kernel
theorem dX5_setRates_84 : decode cX5_setRates 84 = .ok (.iload_n 1, 1) := by decide +kernel
theorem dX5_setRates_85 : decode cX5_setRates 85 = .ok (.iload 4, 2) := by decide +kernel
theorem dX5_setRates_87 : decode cX5_setRates 87 = .ok (.iastore, 1) := by decide +kernel
theorem dX5_setRates_88 : decode cX5_setRates 88 = .ok (.iload 5, 2) := by decide +kernel
theorem dX5_setRates_90 : decode cX5_setRates 90 = .ok (.ireturn, 1) := by decide +kernel
theorem dX5_come_0 : decode cX5_come 0 = .ok (.aload_n 0, 1) := by decide +kernel
theorem dX5_come_1 : decode cX5_come 1 = .ok (.aload_n 0, 1) := by decide +kernel
theorem dX5_come_2 : decode cX5_come 2 = .ok (.iload_n 1, 1) := by decide +kernel
theorem dX5_come_3 : decode cX5_come 3 = .ok (.invokevirtual 134, 3) := by decide +kernel
theorem dX5_come_6 : decode cX5_come 6 = .ok (.ifCond .eq 7, 3) := by decide +kernel
theorem dX5_come_9 : decode cX5_come 9 = .ok (.iconst 1, 1) := by decide +kernel
theorem dX5_come_10 : decode cX5_come 10 = .ok (.goto 4, 3) := by decide +kernel
theorem dX5_come_13 : decode cX5_come 13 = .ok (.iconst 0, 1) := by decide +kernel
theorem dX5_come_14 : decode cX5_come 14 = .ok (.invokevirtual 103, 3) := by decide +kernel
theorem dX5_come_17 : decode cX5_come 17 = .ok (.ifCond .eq 5, 3) := by decide +kernel
theorem dX5_come_20 : decode cX5_come 20 = .ok (.iconst 0, 1) := by decide +kernel
theorem dX5_come_21 : decode cX5_come 21 = .ok (.ireturn, 1) := by decide +kernel
theorem dX5_come_22 : decode cX5_come 22 = .ok (.aload_n 0, 1) := by decide +kernel
theorem dX5_come_23 : decode cX5_come 23 = .ok (.getfield 100, 3) := by decide +kernel
theorem dX5_come_26 : decode cX5_come 26 = .ok (.istore_n 2, 1) := by decide +kernel
theorem dX5_come_27 : decode cX5_come 27 = .ok (.aload_n 0, 1) := by decide +kernel
theorem dX5_come_28 : decode cX5_come 28 = .ok (.iload_n 1, 1) := by decide +kernel
theorem dX5_come_29 : decode cX5_come 29 = .ok (.putfield 71, 3) := by decide +kernel
theorem dX5_come_32 : decode cX5_come 32 = .ok (.aload_n 0, 1) := by decide +kernel
theorem dX5_come_33 : decode cX5_come 33 = .ok (.iconst 0, 1) := by decide +kernel
theorem dX5_come_34 : decode cX5_come 34 = .ok (.putfield 100, 3) := by decide +kernel
theorem dX5_come_37 : decode cX5_come 37 = .ok (.iload_n 2, 1) := by decide +kernel
theorem dX5_come_38 : decode cX5_come 38 = .ok (.ireturn, 1) := by decide +kernel
theorem dX5_town_0 : decode cX5_town 0 = .ok (.aload_n 0, 1) := by decide +kernel
theorem dX5_town_1 : decode cX5_town 1 = .ok (.aload_n 0, 1) := by decide +kernel
theorem dX5_town_2 : decode cX5_town 2 = .ok (.getfield 71, 3) := by decide +kernel
theorem dX5_town_5 : decode cX5_town 5 = .ok (.ifCond .ge 7, 3) := by decide +kernel
theorem dX5_town_8 : decode cX5_town 8 = .ok (.iconst 1, 1) := by decide +kernel
theorem dX5_town_9 : decode cX5_town 9 = .ok (.goto 4, 3) := by decide +kernel
theorem dX5_town_12 : decode cX5_town 12 = .ok (.iconst 0, 1) := by decide +kernel
theorem dX5_town_13 : decode cX5_town 13 = .ok (.invokevirtual 103, 3) := by decide +kernel
theorem dX5_town_16 : decode cX5_town 16 = .ok (.ifCond .eq 7, 3) := by decide +kernel
theorem dX5_town_19 : decode cX5_town 19 = .ok (.iconst 0, 1) := by decide +kernel
theorem dX5_town_20 : decode cX5_town 20 = .ok (.goto 7, 3) := by decide +kernel
theorem dX5_town_23 : decode cX5_town 23 = .ok (.aload_n 0, 1) := by decide +kernel
theorem dX5_town_24 : decode cX5_town 24 = .ok (.getfield 71, 3) := by decide +kernel
theorem dX5_town_27 : decode cX5_town 27 = .ok (.ireturn, 1) := by decide +kernel
theorem dX5_load_0 : decode cX5_load 0 = .ok (.aload_n 0, 1) := by decide +kernel
theorem dX5_load_1 : decode cX5_load 1 = .ok (.getfield 28, 3) := by decide +kernel
theorem dX5_load_4 : decode cX5_load 4 = .ok (.iload_n 1, 1) := by decide +kernel
theorem dX5_load_5 : decode cX5_load 5 = .ok (.baload, 1) := by decide +kernel
theorem dX5_load_6 : decode cX5_load 6 = .ok (.ifCond .eq 23, 3) := by decide +kernel
theorem dX5_load_9 : decode cX5_load 9 = .ok (.iload_n 2, 1) := by decide +kernel
theorem dX5_load_10 : decode cX5_load 10 = .ok (.aload_n 0, 1) := by decide +kernel
theorem dX5_load_11 : decode cX5_load 11 = .ok (.getfield 32, 3) := by decide +kernel
theorem dX5_load_14 : decode cX5_load 14 = .ok (.iload_n 1, 1) := by decide +kernel
theorem dX5_load_15 : decode cX5_load 15 = .ok (.iaload, 1) := by decide +kernel
theorem dX5_load_16 : decode cX5_load 16 = .ok (.if_icmp .eq 15, 3) := by decide +kernel
theorem dX5_load_19 : decode cX5_load 19 = .ok (.iload_n 2, 1) := by decide +kernel
theorem dX5_load_20 : decode cX5_load 20 = .ok (.aload_n 0, 1) := by decide +kernel
theorem dX5_load_21 : decode cX5_load 21 = .ok (.getfield 35, 3) := by decide +kernel
theorem dX5_load_24 : decode cX5_load 24 = .ok (.iload_n 1, 1) := by decide +kernel
theorem dX5_load_25 : decode cX5_load 25 = .ok (.iaload, 1) := by decide +kernel
theorem dX5_load_26 : decode cX5_load 26 = .ok (.if_icmp .eq 5, 3) := by decide +kernel
theorem dX5_load_29 : decode cX5_load 29 = .ok (.iconst 0, 1) := by decide +kernel
theorem dX5_load_30 : decode cX5_load 30 = .ok (.ireturn, 1) := by decide +kernel
theorem dX5_load_31 : decode cX5_load 31 = .ok (.iload_n 2, 1) := by decide +kernel
theorem dX5_load_32 : decode cX5_load 32 = .ok (.aload_n 0, 1) := by decide +kernel
theorem dX5_load_33 : decode cX5_load 33 = .ok (.getfield 35, 3) := by decide +kernel
theorem dX5_load_36 : decode cX5_load 36 = .ok (.iload_n 1, 1) := by decide +kernel
theorem dX5_load_37 : decode cX5_load 37 = .ok (.iaload, 1) := by decide +kernel
theorem dX5_load_38 : decode cX5_load 38 = .ok (.if_icmp .ne 11, 3) := by decide +kernel
theorem dX5_load_41 : decode cX5_load 41 = .ok (.aload_n 0, 1) := by decide +kernel
theorem dX5_load_42 : decode cX5_load 42 = .ok (.iload_n 1, 1) := by decide +kernel
theorem dX5_load_43 : decode cX5_load 43 = .ok (.invokevirtual 121, 3) := by decide +kernel
theorem dX5_load_46 : decode cX5_load 46 = .ok (.goto 15, 3) := by decide +kernel
theorem dX5_load_49 : decode cX5_load 49 = .ok (.aload_n 0, 1) := by decide +kernel
theorem dX5_load_50 : decode cX5_load 50 = .ok (.getfield 16, 3) := by decide +kernel
theorem dX5_load_53 : decode cX5_load 53 = .ok (.iload_n 1, 1) := by decide +kernel
theorem dX5_load_54 : decode cX5_load 54 = .ok (.iaload, 1) := by decide +kernel
theorem dX5_load_55 : decode cX5_load 55 = .ok (.aload_n 0, 1) := by decide +kernel
theorem dX5_load_56 : decode cX5_load 56 = .ok (.iload_n 1, 1) := by decide +kernel
theorem dX5_load_57 : decode cX5_load 57 = .ok (.invokevirtual 121, 3) := by decide +kernel
theorem dX5_load_60 : decode cX5_load 60 = .ok (.isub, 1) := by decide +kernel
theorem dX5_load_61 : decode cX5_load 61 = .ok (.istore_n 3, 1) := by decide +kernel
theorem dX5_load_62 : decode cX5_load 62 = .ok (.iload_n 3, 1) := by decide +kernel
theorem dX5_load_63 : decode cX5_load 63 = .ok (.bipush 100, 2) := by decide +kernel
theorem dX5_load_65 : decode cX5_load 65 = .ok (.aload_n 0, 1) := by decide +kernel
theorem dX5_load_66 : decode cX5_load 66 = .ok (.getfield 41, 3) := by decide +kernel
theorem dX5_load_69 : decode cX5_load 69 = .ok (.iload_n 1, 1) := by decide +kernel
theorem dX5_load_70 : decode cX5_load 70 = .ok (.iaload, 1) := by decide +kernel
theorem dX5_load_71 : decode cX5_load 71 = .ok (.iadd, 1) := by decide +kernel
theorem dX5_load_72 : decode cX5_load 72 = .ok (.imul, 1) := by decide +kernel
theorem dX5_load_73 : decode cX5_load 73 = .ok (.bipush 99, 2) := by decide +kernel
theorem dX5_load_75 : decode cX5_load 75 = .ok (.iadd, 1) := by decide +kernel
theorem dX5_load_76 : decode cX5_load 76 = .ok (.bipush 100, 2) := by decide +kernel
theorem dX5_load_78 : decode cX5_load 78 = .ok (.idiv, 1) := by decide +kernel
theorem dX5_load_79 : decode cX5_load 79 = .ok (.ireturn, 1) := by decide +kernel
theorem dX5_loadOn_0 : decode cX5_loadOn 0 = .ok (.aload_n 0, 1) := by decide +kernel
theorem dX5_loadOn_1 : decode cX5_loadOn 1 = .ok (.aload_n 0, 1) := by decide +kernel
theorem dX5_loadOn_2 : decode cX5_loadOn 2 = .ok (.iload_n 1, 1) := by decide +kernel
theorem dX5_loadOn_3 : decode cX5_loadOn 3 = .ok (.invokevirtual 107, 3) := by decide +kernel
theorem dX5_loadOn_6 : decode cX5_loadOn 6 = .ok (.ifCond .eq 7, 3) := by decide +kernel
theorem dX5_loadOn_9 : decode cX5_loadOn 9 = .ok (.iconst 1, 1) := by decide +kernel
theorem dX5_loadOn_10 : decode cX5_loadOn 10 = .ok (.goto 16, 3) := by decide +kernel
theorem dX5_loadOn_13 : decode cX5_loadOn 13 = .ok (.aload_n 0, 1) := by decide +kernel
theorem dX5_loadOn_14 : decode cX5_loadOn 14 = .ok (.iload_n 2, 1) := by decide +kernel
theorem dX5_loadOn_15 : decode cX5_loadOn 15 = .ok (.invokevirtual 110, 3) := by decide +kernel
theorem dX5_loadOn_18 : decode cX5_loadOn 18 = .ok (.ifCond .eq 7, 3) := by decide +kernel
theorem dX5_loadOn_21 : decode cX5_loadOn 21 = .ok (.iconst 2, 1) := by decide +kernel
theorem dX5_loadOn_22 : decode cX5_loadOn 22 = .ok (.goto 4, 3) := by decide +kernel
theorem dX5_loadOn_25 : decode cX5_loadOn 25 = .ok (.iconst 0, 1) := by decide +kernel
theorem dX5_loadOn_26 : decode cX5_loadOn 26 = .ok (.invokevirtual 103, 3) := by decide +kernel
theorem dX5_loadOn_29 : decode cX5_loadOn 29 = .ok (.ifCond .eq 7, 3) := by decide +kernel
theorem dX5_loadOn_32 : decode cX5_loadOn 32 = .ok (.iconst 0, 1) := by decide +kernel
theorem dX5_loadOn_33 : decode cX5_loadOn 33 = .ok (.goto 9, 3) := by decide +kernel
theorem dX5_loadOn_36 : decode cX5_loadOn 36 = .ok (.aload_n 0, 1) := by decide +kernel
theorem dX5_loadOn_37 : decode cX5_loadOn 37 = .ok (.iload_n 1, 1) := by decide +kernel
theorem dX5_loadOn_38 : decode cX5_loadOn 38 = .ok (.iload_n 2, 1) := by decide +kernel
theorem dX5_loadOn_39 : decode cX5_loadOn 39 = .ok (.invokevirtual 137, 3) := by decide +kernel
theorem dX5_loadOn_42 : decode cX5_loadOn 42 = .ok (.ireturn, 1) := by decide +kernel
theorem dX5_may_0 : decode cX5_may 0 = .ok (.aload_n 0, 1) := by decide +kernel
theorem dX5_may_1 : decode cX5_may 1 = .ok (.getfield 13, 3) := by decide +kernel
theorem dX5_may_4 : decode cX5_may 4 = .ok (.iload_n 1, 1) := by decide +kernel
theorem dX5_may_5 : decode cX5_may 5 = .ok (.iaload, 1) := by decide +kernel
theorem dX5_may_6 : decode cX5_may 6 = .ok (.aload_n 0, 1) := by decide +kernel
theorem dX5_may_7 : decode cX5_may 7 = .ok (.getfield 50, 3) := by decide +kernel
theorem dX5_may_10 : decode cX5_may 10 = .ok (.aload_n 0, 1) := by decide +kernel
theorem dX5_may_11 : decode cX5_may 11 = .ok (.getfield 71, 3) := by decide +kernel
theorem dX5_may_14 : decode cX5_may 14 = .ok (.iaload, 1) := by decide +kernel
theorem dX5_may_15 : decode cX5_may 15 = .ok (.imul, 1) := by decide +kernel
theorem dX5_may_16 : decode cX5_may 16 = .ok (.bipush 100, 2) := by decide +kernel
theorem dX5_may_18 : decode cX5_may 18 = .ok (.idiv, 1) := by decide +kernel
theorem dX5_may_19 : decode cX5_may 19 = .ok (.ireturn, 1) := by decide +kernel
theorem dX5_mayBear_0 : decode cX5_mayBear 0 = .ok (.aload_n 0, 1) := by decide +kernel
theorem dX5_mayBear_1 : decode cX5_mayBear 1 = .ok (.aload_n 0, 1) := by decide +kernel
theorem dX5_mayBear_2 : decode cX5_mayBear 2 = .ok (.iload_n 1, 1) := by decide +kernel
theorem dX5_mayBear_3 : decode cX5_mayBear 3 = .ok (.invokevirtual 110, 3) := by decide +kernel
theorem dX5_mayBear_6 : decode cX5_mayBear 6 = .ok (.ifCond .eq 7, 3) := by decide +kernel
theorem dX5_mayBear_9 : decode cX5_mayBear 9 = .ok (.iconst 1, 1) := by decide +kernel
theorem dX5_mayBear_10 : decode cX5_mayBear 10 = .ok (.goto 15, 3) := by decide +kernel
theorem dX5_mayBear_13 : decode cX5_mayBear 13 = .ok (.aload_n 0, 1) := by decide +kernel
theorem dX5_mayBear_14 : decode cX5_mayBear 14 = .ok (.getfield 71, 3) := by decide +kernel
theorem dX5_mayBear_17 : decode cX5_mayBear 17 = .ok (.ifCond .ge 7, 3) := by decide +kernel
theorem dX5_mayBear_20 : decode cX5_mayBear 20 = .ok (.iconst 2, 1) := by decide +kernel
theorem dX5_mayBear_21 : decode cX5_mayBear 21 = .ok (.goto 4, 3) := by decide +kernel
theorem dX5_mayBear_24 : decode cX5_mayBear 24 = .ok (.iconst 0, 1) := by decide +kernel
theorem dX5_mayBear_25 : decode cX5_mayBear 25 = .ok (.invokevirtual 103, 3) := by decide +kernel
theorem dX5_mayBear_28 : decode cX5_mayBear 28 = .ok (.ifCond .eq 7, 3) := by decide +kernel
theorem dX5_mayBear_31 : decode cX5_mayBear 31 = .ok (.iconst 0, 1) := by decide +kernel
theorem dX5_mayBear_32 : decode cX5_mayBear 32 = .ok (.goto 8, 3) := by decide +kernel
theorem dX5_mayBear_35 : decode cX5_mayBear 35 = .ok (.aload_n 0, 1) := by decide +kernel
theorem dX5_mayBear_36 : decode cX5_mayBear 36 = .ok (.iload_n 1, 1) := by decide +kernel
theorem dX5_mayBear_37 : decode cX5_mayBear 37 = .ok (.invokevirtual 141, 3) := by decide +kernel
theorem dX5_mayBear_40 : decode cX5_mayBear 40 = .ok (.ireturn, 1) := by decide +kernel
theorem dX5_borne_0 : decode cX5_borne 0 = .ok (.iconst 0, 1) := by decide +kernel
theorem dX5_borne_1 : decode cX5_borne 1 = .ok (.istore_n 2, 1) := by decide +kernel
theorem dX5_borne_2 : decode cX5_borne 2 = .ok (.iconst 0, 1) := by decide +kernel
theorem dX5_borne_3 : decode cX5_borne 3 = .ok (.istore_n 3, 1) := by decide +kernel
theorem dX5_borne_4 : decode cX5_borne 4 = .ok (.iload_n 3, 1) := by decide +kernel
theorem dX5_borne_5 : decode cX5_borne 5 = .ok (.aload_n 0, 1) := by decide +kernel
theorem dX5_borne_6 : decode cX5_borne 6 = .ok (.getfield 100, 3) := by decide +kernel
theorem dX5_borne_9 : decode cX5_borne 9 = .ok (.if_icmp .ge 23, 3) := by decide +kernel
theorem dX5_borne_12 : decode cX5_borne 12 = .ok (.iload_n 2, 1) := by decide +kernel
theorem dX5_borne_13 : decode cX5_borne 13 = .ok (.aload_n 0, 1) := by decide +kernel
theorem dX5_borne_14 : decode cX5_borne 14 = .ok (.aload_n 0, 1) := by decide +kernel
theorem dX5_borne_15 : decode cX5_borne 15 = .ok (.getfield 75, 3) := by decide +kernel
theorem dX5_borne_18 : decode cX5_borne 18 = .ok (.iload_n 3, 1) := by decide +kernel
theorem dX5_borne_19 : decode cX5_borne 19 = .ok (.iaload, 1) := by decide +kernel
theorem dX5_borne_20 : decode cX5_borne 20 = .ok (.iload_n 1, 1) := by decide +kernel
theorem dX5_borne_21 : decode cX5_borne 21 = .ok (.invokevirtual 137, 3) := by decide +kernel
theorem dX5_borne_24 : decode cX5_borne 24 = .ok (.iadd, 1) := by decide +kernel
theorem dX5_borne_25 : decode cX5_borne 25 = .ok (.istore_n 2, 1) := by decide +kernel
theorem dX5_borne_26 : decode cX5_borne 26 = .ok (.iinc 3 1, 3) := by decide +kernel
theorem dX5_borne_29 : decode cX5_borne 29 = .ok (.goto (-25), 3) := by decide +kernel
theorem dX5_borne_32 : decode cX5_borne 32 = .ok (.iload_n 2, 1) := by decide +kernel
theorem dX5_borne_33 : decode cX5_borne 33 = .ok (.ireturn, 1) := by decide +kernel
theorem dX5_bears_0 : decode cX5_bears 0 = .ok (.aload_n 0, 1) := by decide +kernel
theorem dX5_bears_1 : decode cX5_bears 1 = .ok (.aload_n 0, 1) := by decide +kernel
theorem dX5_bears_2 : decode cX5_bears 2 = .ok (.iload_n 1, 1) := by decide +kernel
theorem dX5_bears_3 : decode cX5_bears 3 = .ok (.invokevirtual 110, 3) := by decide +kernel
theorem dX5_bears_6 : decode cX5_bears 6 = .ok (.ifCond .eq 7, 3) := by decide +kernel
theorem dX5_bears_9 : decode cX5_bears 9 = .ok (.iconst 1, 1) := by decide +kernel
theorem dX5_bears_10 : decode cX5_bears 10 = .ok (.goto 4, 3) := by decide +kernel
theorem dX5_bears_13 : decode cX5_bears 13 = .ok (.iconst 0, 1) := by decide +kernel
theorem dX5_bears_14 : decode cX5_bears 14 = .ok (.invokevirtual 103, 3) := by decide +kernel
theorem dX5_bears_17 : decode cX5_bears 17 = .ok (.ifCond .eq 7, 3) := by decide +kernel
theorem dX5_bears_20 : decode cX5_bears 20 = .ok (.iconst 0, 1) := by decide +kernel
theorem dX5_bears_21 : decode cX5_bears 21 = .ok (.goto 8, 3) := by decide +kernel
theorem dX5_bears_24 : decode cX5_bears 24 = .ok (.aload_n 0, 1) := by decide +kernel
theorem dX5_bears_25 : decode cX5_bears 25 = .ok (.iload_n 1, 1) := by decide +kernel
theorem dX5_bears_26 : decode cX5_bears 26 = .ok (.invokevirtual 144, 3) := by decide +kernel
theorem dX5_bears_29 : decode cX5_bears 29 = .ok (.ireturn, 1) := by decide +kernel
theorem dX5_endOf_0 : decode cX5_endOf 0 = .ok (.aload_n 0, 1) := by decide +kernel
theorem dX5_endOf_1 : decode cX5_endOf 1 = .ok (.getfield 78, 3) := by decide +kernel
theorem dX5_endOf_4 : decode cX5_endOf 4 = .ok (.iload_n 1, 1) := by decide +kernel
theorem dX5_endOf_5 : decode cX5_endOf 5 = .ok (.iaload, 1) := by decide +kernel
theorem dX5_endOf_6 : decode cX5_endOf 6 = .ok (.aload_n 0, 1) := by decide +kernel
theorem dX5_endOf_7 : decode cX5_endOf 7 = .ok (.getfield 19, 3) := by decide +kernel
theorem dX5_endOf_10 : decode cX5_endOf 10 = .ok (.aload_n 0, 1) := by decide +kernel
theorem dX5_endOf_11 : decode cX5_endOf 11 = .ok (.getfield 75, 3) := by decide +kernel
theorem dX5_endOf_14 : decode cX5_endOf 14 = .ok (.iload_n 1, 1) := by decide +kernel
theorem dX5_endOf_15 : decode cX5_endOf 15 = .ok (.iaload, 1) := by decide +kernel
theorem dX5_endOf_16 : decode cX5_endOf 16 = .ok (.iaload, 1) := by decide +kernel
theorem dX5_endOf_17 : decode cX5_endOf 17 = .ok (.iadd, 1) := by decide +kernel
theorem dX5_endOf_18 : decode cX5_endOf 18 = .ok (.ireturn, 1) := by decide +kernel
theorem dX5_lastEnd_0 : decode cX5_lastEnd 0 = .ok (.aload_n 0, 1) := by decide +kernel
theorem dX5_lastEnd_1 : decode cX5_lastEnd 1 = .ok (.getfield 100, 3) := by decide +kernel
theorem dX5_lastEnd_4 : decode cX5_lastEnd 4 = .ok (.ifCond .ne 7, 3) := by decide +kernel
theorem dX5_lastEnd_7 : decode cX5_lastEnd 7 = .ok (.iconst 0, 1) := by decide +kernel
theorem dX5_lastEnd_8 : decode cX5_lastEnd 8 = .ok (.goto 13, 3) := by decide +kernel
theorem dX5_lastEnd_11 : decode cX5_lastEnd 11 = .ok (.aload_n 0, 1) := by decide +kernel
theorem dX5_lastEnd_12 : decode cX5_lastEnd 12 = .ok (.aload_n 0, 1) := by decide +kernel
theorem dX5_lastEnd_13 : decode cX5_lastEnd 13 = .ok (.getfield 100, 3) := by decide +kernel
theorem dX5_lastEnd_16 : decode cX5_lastEnd 16 = .ok (.iconst 1, 1) := by decide +kernel
theorem dX5_lastEnd_17 : decode cX5_lastEnd 17 = .ok (.isub, 1) := by decide +kernel
theorem dX5_lastEnd_18 : decode cX5_lastEnd 18 = .ok (.invokevirtual 147, 3) := by decide +kernel
theorem dX5_lastEnd_21 : decode cX5_lastEnd 21 = .ok (.ireturn, 1) := by decide +kernel
theorem dX5_lastWork_0 : decode cX5_lastWork 0 = .ok (.aload_n 0, 1) := by decide +kernel
theorem dX5_lastWork_1 : decode cX5_lastWork 1 = .ok (.getfield 100, 3) := by decide +kernel
theorem dX5_lastWork_4 : decode cX5_lastWork 4 = .ok (.ifCond .ne 7, 3) := by decide +kernel
theorem dX5_lastWork_7 : decode cX5_lastWork 7 = .ok (.iconst 0, 1) := by decide +kernel
theorem dX5_lastWork_8 : decode cX5_lastWork 8 = .ok (.goto 14, 3) := by decide +kernel
theorem dX5_lastWork_11 : decode cX5_lastWork 11 = .ok (.aload_n 0, 1) := by decide +kernel
theorem dX5_lastWork_12 : decode cX5_lastWork 12 = .ok (.getfield 81, 3) := by decide +kernel
theorem dX5_lastWork_15 : decode cX5_lastWork 15 = .ok (.aload_n 0, 1) := by decide +kernel
theorem dX5_lastWork_16 : decode cX5_lastWork 16 = .ok (.getfield 100, 3) := by decide +kernel
theorem dX5_lastWork_19 : decode cX5_lastWork 19 = .ok (.iconst 1, 1) := by decide +kernel
theorem dX5_lastWork_20 : decode cX5_lastWork 20 = .ok (.isub, 1) := by decide +kernel
theorem dX5_lastWork_21 : decode cX5_lastWork 21 = .ok (.iaload, 1) := by decide +kernel
theorem dX5_lastWork_22 : decode cX5_lastWork 22 = .ok (.ireturn, 1) := by decide +kernel
theorem dX5_isAnew_0 : decode cX5_isAnew 0 = .ok (.aload_n 0, 1) := by decide +kernel
theorem dX5_isAnew_1 : decode cX5_isAnew 1 = .ok (.getfield 47, 3) := by decide +kernel
theorem dX5_isAnew_4 : decode cX5_isAnew 4 = .ok (.aload_n 0, 1) := by decide +kernel
theorem dX5_isAnew_5 : decode cX5_isAnew 5 = .ok (.getfield 25, 3) := by decide +kernel
theorem dX5_isAnew_8 : decode cX5_isAnew 8 = .ok (.iload_n 1, 1) := by decide +kernel
theorem dX5_isAnew_9 : decode cX5_isAnew 9 = .ok (.iaload, 1) := by decide +kernel
theorem dX5_isAnew_10 : decode cX5_isAnew 10 = .ok (.iaload, 1) := by decide +kernel
theorem dX5_isAnew_11 : decode cX5_isAnew 11 = .ok (.aload_n 0, 1) := by decide +kernel
theorem dX5_isAnew_12 : decode cX5_isAnew 12 = .ok (.invokevirtual 150, 3) := by decide +kernel
theorem dX5_isAnew_15 : decode cX5_isAnew 15 = .ok (.isub, 1) := by decide +kernel
theorem dX5_isAnew_16 : decode cX5_isAnew 16 = .ok (.aload_n 0, 1) := by decide +kernel
theorem dX5_isAnew_17 : decode cX5_isAnew 17 = .ok (.getfield 56, 3) := by decide +kernel
theorem dX5_isAnew_20 : decode cX5_isAnew 20 = .ok (.aload_n 0, 1) := by decide +kernel
theorem dX5_isAnew_21 : decode cX5_isAnew 21 = .ok (.getfield 71, 3) := by decide +kernel
theorem dX5_isAnew_24 : decode cX5_isAnew 24 = .ok (.iaload, 1) := by decide +kernel
theorem dX5_isAnew_25 : decode cX5_isAnew 25 = .ok (.if_icmp .ge 26, 3) := by decide +kernel
theorem dX5_isAnew_28 : decode cX5_isAnew 28 = .ok (.aload_n 0, 1) := by decide +kernel
theorem dX5_isAnew_29 : decode cX5_isAnew 29 = .ok (.invokevirtual 154, 3) := by decide +kernel
theorem dX5_isAnew_32 : decode cX5_isAnew 32 = .ok (.aload_n 0, 1) := by decide +kernel
theorem dX5_isAnew_33 : decode cX5_isAnew 33 = .ok (.getfield 19, 3) := by decide +kernel
theorem dX5_isAnew_36 : decode cX5_isAnew 36 = .ok (.iload_n 1, 1) := by decide +kernel
theorem dX5_isAnew_37 : decode cX5_isAnew 37 = .ok (.iaload, 1) := by decide +kernel
theorem dX5_isAnew_38 : decode cX5_isAnew 38 = .ok (.iadd, 1) := by decide +kernel
theorem dX5_isAnew_39 : decode cX5_isAnew 39 = .ok (.aload_n 0, 1) := by decide +kernel
theorem dX5_isAnew_40 : decode cX5_isAnew 40 = .ok (.getfield 53, 3) := by decide +kernel
theorem dX5_isAnew_43 : decode cX5_isAnew 43 = .ok (.aload_n 0, 1) := by decide +kernel
theorem dX5_isAnew_44 : decode cX5_isAnew 44 = .ok (.getfield 71, 3) := by decide +kernel
theorem dX5_isAnew_47 : decode cX5_isAnew 47 = .ok (.iaload, 1) := by decide +kernel
theorem dX5_isAnew_48 : decode cX5_isAnew 48 = .ok (.if_icmp .le 7, 3) := by decide +kernel
theorem dX5_isAnew_51 : decode cX5_isAnew 51 = .ok (.iconst 1, 1) := by decide +kernel
theorem dX5_isAnew_52 : decode cX5_isAnew 52 = .ok (.goto 4, 3) := by decide +kernel
theorem dX5_isAnew_55 : decode cX5_isAnew 55 = .ok (.iconst 0, 1) := by decide +kernel
theorem dX5_isAnew_56 : decode cX5_isAnew 56 = .ok (.ireturn, 1) := by decide +kernel
theorem dX5_beginNext_0 : decode cX5_beginNext 0 = .ok (.aload_n 0, 1) := by decide +kernel
theorem dX5_beginNext_1 : decode cX5_beginNext 1 = .ok (.getfield 47, 3) := by decide +kernel
theorem dX5_beginNext_4 : decode cX5_beginNext 4 = .ok (.aload_n 0, 1) := by decide +kernel
theorem dX5_beginNext_5 : decode cX5_beginNext 5 = .ok (.getfield 25, 3) := by decide +kernel
theorem dX5_beginNext_8 : decode cX5_beginNext 8 = .ok (.iload_n 1, 1) := by decide +kernel
theorem dX5_beginNext_9 : decode cX5_beginNext 9 = .ok (.iaload, 1) := by decide +kernel
theorem dX5_beginNext_10 : decode cX5_beginNext 10 = .ok (.iaload, 1) := by decide +kernel
theorem dX5_beginNext_11 : decode cX5_beginNext 11 = .ok (.istore_n 2, 1) := by decide +kernel
theorem dX5_beginNext_12 : decode cX5_beginNext 12 = .ok (.aload_n 0, 1) := by decide +kernel
theorem dX5_beginNext_13 : decode cX5_beginNext 13 = .ok (.invokevirtual 150, 3) := by decide +kernel
theorem dX5_beginNext_16 : decode cX5_beginNext 16 = .ok (.istore_n 3, 1) := by decide +kernel
theorem dX5_beginNext_17 : decode cX5_beginNext 17 = .ok (.iload_n 2, 1) := by decide +kernel
theorem dX5_beginNext_18 : decode cX5_beginNext 18 = .ok (.iload_n 3, 1) := by decide +kernel
theorem dX5_beginNext_19 : decode cX5_beginNext 19 = .ok (.isub, 1) := by decide +kernel
theorem dX5_beginNext_20 : decode cX5_beginNext 20 = .ok (.aload_n 0, 1) := by decide +kernel
theorem dX5_beginNext_21 : decode cX5_beginNext 21 = .ok (.getfield 56, 3) := by decide +kernel
theorem dX5_beginNext_24 : decode cX5_beginNext 24 = .ok (.aload_n 0, 1) := by decide +kernel
theorem dX5_beginNext_25 : decode cX5_beginNext 25 = .ok (.getfield 71, 3) := by decide +kernel
theorem dX5_beginNext_28 : decode cX5_beginNext 28 = .ok (.iaload, 1) := by decide +kernel
theorem dX5_beginNext_29 : decode cX5_beginNext 29 = .ok (.if_icmp .lt 5, 3) := by decide +kernel
theorem dX5_beginNext_32 : decode cX5_beginNext 32 = .ok (.iload_n 2, 1) := by decide +kernel
theorem dX5_beginNext_33 : decode cX5_beginNext 33 = .ok (.ireturn, 1) := by decide +kernel
theorem dX5_beginNext_34 : decode cX5_beginNext 34 = .ok (.iload_n 2, 1) := by decide +kernel
theorem dX5_beginNext_35 : decode cX5_beginNext 35 = .ok (.iload_n 3, 1) := by decide +kernel
theorem dX5_beginNext_36 : decode cX5_beginNext 36 = .ok (.if_icmp .le 7, 3) := by decide +kernel
theorem dX5_beginNext_39 : decode cX5_beginNext 39 = .ok (.iload_n 2, 1) := by decide +kernel
theorem dX5_beginNext_40 : decode cX5_beginNext 40 = .ok (.goto 4, 3) := by decide +kernel
theorem dX5_beginNext_43 : decode cX5_beginNext 43 = .ok (.iload_n 3, 1) := by decide +kernel
theorem dX5_beginNext_44 : decode cX5_beginNext 44 = .ok (.aload_n 0, 1) := by decide +kernel
theorem dX5_beginNext_45 : decode cX5_beginNext 45 = .ok (.iload_n 1, 1) := by decide +kernel
theorem dX5_beginNext_46 : decode cX5_beginNext 46 = .ok (.invokevirtual 157, 3) := by decide +kernel
theorem dX5_beginNext_49 : decode cX5_beginNext 49 = .ok (.ifCond .eq 15, 3) := by decide +kernel
theorem dX5_beginNext_52 : decode cX5_beginNext 52 = .ok (.aload_n 0, 1) := by decide +kernel
theorem dX5_beginNext_53 : decode cX5_beginNext 53 = .ok (.getfield 56, 3) := by decide +kernel
theorem dX5_beginNext_56 : decode cX5_beginNext 56 = .ok (.aload_n 0, 1) := by decide +kernel
theorem dX5_beginNext_57 : decode cX5_beginNext 57 = .ok (.getfield 71, 3) := by decide +kernel
theorem dX5_beginNext_60 : decode cX5_beginNext 60 = .ok (.iaload, 1) := by decide +kernel
theorem dX5_beginNext_61 : decode cX5_beginNext 61 = .ok (.goto 4, 3) := by decide +kernel
theorem dX5_beginNext_64 : decode cX5_beginNext 64 = .ok (.iconst 0, 1) := by decide +kernel
theorem dX5_beginNext_65 : decode cX5_beginNext 65 = .ok (.iadd, 1) := by decide +kernel
theorem dX5_beginNext_66 : decode cX5_beginNext 66 = .ok (.ireturn, 1) := by decide +kernel
theorem dX5_isTooMuch_0 : decode cX5_isTooMuch 0 = .ok (.aload_n 0, 1) := by decide +kernel
theorem dX5_isTooMuch_1 : decode cX5_isTooMuch 1 = .ok (.aload_n 0, 1) := by decide +kernel
theorem dX5_isTooMuch_2 : decode cX5_isTooMuch 2 = .ok (.getfield 32, 3) := by decide +kernel
theorem dX5_isTooMuch_5 : decode cX5_isTooMuch 5 = .ok (.iload_n 1, 1) := by decide +kernel
theorem dX5_isTooMuch_6 : decode cX5_isTooMuch 6 = .ok (.iaload, 1) := by decide +kernel
theorem dX5_isTooMuch_7 : decode cX5_isTooMuch 7 = .ok (.invokevirtual 144, 3) := by decide +kernel
theorem dX5_isTooMuch_10 : decode cX5_isTooMuch 10 = .ok (.aload_n 0, 1) := by decide +kernel
theorem dX5_isTooMuch_11 : decode cX5_isTooMuch 11 = .ok (.iload_n 1, 1) := by decide +kernel
theorem dX5_isTooMuch_12 : decode cX5_isTooMuch 12 = .ok (.aload_n 0, 1) := by decide +kernel
theorem dX5_isTooMuch_13 : decode cX5_isTooMuch 13 = .ok (.getfield 32, 3) := by decide +kernel
theorem dX5_isTooMuch_16 : decode cX5_isTooMuch 16 = .ok (.iload_n 1, 1) := by decide +kernel
theorem dX5_isTooMuch_17 : decode cX5_isTooMuch 17 = .ok (.iaload, 1) := by decide +kernel
theorem dX5_isTooMuch_18 : decode cX5_isTooMuch 18 = .ok (.invokevirtual 137, 3) := by decide +kernel
theorem dX5_isTooMuch_21 : decode cX5_isTooMuch 21 = .ok (.iadd, 1) := by decide +kernel
theorem dX5_isTooMuch_22 : decode cX5_isTooMuch 22 = .ok (.aload_n 0, 1) := by decide +kernel
theorem dX5_isTooMuch_23 : decode cX5_isTooMuch 23 = .ok (.aload_n 0, 1) := by decide +kernel
theorem dX5_isTooMuch_24 : decode cX5_isTooMuch 24 = .ok (.getfield 32, 3) := by decide +kernel
theorem dX5_isTooMuch_27 : decode cX5_isTooMuch 27 = .ok (.iload_n 1, 1) := by decide +kernel
theorem dX5_isTooMuch_28 : decode cX5_isTooMuch 28 = .ok (.iaload, 1) := by decide +kernel
theorem dX5_isTooMuch_29 : decode cX5_isTooMuch 29 = .ok (.invokevirtual 141, 3) := by decide +kernel
theorem dX5_isTooMuch_32 : decode cX5_isTooMuch 32 = .ok (.if_icmp .gt 38, 3) := by decide +kernel
theorem dX5_isTooMuch_35 : decode cX5_isTooMuch 35 = .ok (.aload_n 0, 1) := by decide +kernel
theorem dX5_isTooMuch_36 : decode cX5_isTooMuch 36 = .ok (.aload_n 0, 1) := by decide +kernel
theorem dX5_isTooMuch_37 : decode cX5_isTooMuch 37 = .ok (.getfield 35, 3) := by decide +kernel
theorem dX5_isTooMuch_40 : decode cX5_isTooMuch 40 = .ok (.iload_n 1, 1) := by decide +kernel
theorem dX5_isTooMuch_41 : decode cX5_isTooMuch 41 = .ok (.iaload, 1) := by decide +kernel
theorem dX5_isTooMuch_42 : decode cX5_isTooMuch 42 = .ok (.invokevirtual 144, 3) := by decide +kernel
theorem dX5_isTooMuch_45 : decode cX5_isTooMuch 45 = .ok (.aload_n 0, 1) := by decide +kernel
theorem dX5_isTooMuch_46 : decode cX5_isTooMuch 46 = .ok (.iload_n 1, 1) := by decide +kernel
theorem dX5_isTooMuch_47 : decode cX5_isTooMuch 47 = .ok (.aload_n 0, 1) := by decide +kernel
theorem dX5_isTooMuch_48 : decode cX5_isTooMuch 48 = .ok (.getfield 35, 3) := by decide +kernel
theorem dX5_isTooMuch_51 : decode cX5_isTooMuch 51 = .ok (.iload_n 1, 1) := by decide +kernel
theorem dX5_isTooMuch_52 : decode cX5_isTooMuch 52 = .ok (.iaload, 1) := by decide +kernel
theorem dX5_isTooMuch_53 : decode cX5_isTooMuch 53 = .ok (.invokevirtual 137, 3) := by decide +kernel
theorem dX5_isTooMuch_56 : decode cX5_isTooMuch 56 = .ok (.iadd, 1) := by decide +kernel
theorem dX5_isTooMuch_57 : decode cX5_isTooMuch 57 = .ok (.aload_n 0, 1) := by decide +kernel
theorem dX5_isTooMuch_58 : decode cX5_isTooMuch 58 = .ok (.aload_n 0, 1) := by decide +kernel
theorem dX5_isTooMuch_59 : decode cX5_isTooMuch 59 = .ok (.getfield 35, 3) := by decide +kernel
theorem dX5_isTooMuch_62 : decode cX5_isTooMuch 62 = .ok (.iload_n 1, 1) := by decide +kernel
theorem dX5_isTooMuch_63 : decode cX5_isTooMuch 63 = .ok (.iaload, 1) := by decide +kernel
theorem dX5_isTooMuch_64 : decode cX5_isTooMuch 64 = .ok (.invokevirtual 141, 3) := by decide +kernel
theorem dX5_isTooMuch_67 : decode cX5_isTooMuch 67 = .ok (.if_icmp .le 7, 3) := by decide +kernel
theorem dX5_isTooMuch_70 : decode cX5_isTooMuch 70 = .ok (.iconst 1, 1) := by decide +kernel
theorem dX5_isTooMuch_71 : decode cX5_isTooMuch 71 = .ok (.goto 4, 3) := by decide +kernel
theorem dX5_isTooMuch_74 : decode cX5_isTooMuch 74 = .ok (.iconst 0, 1) := by decide +kernel
theorem dX5_isTooMuch_75 : decode cX5_isTooMuch 75 = .ok (.ireturn, 1) := by decide +kernel
theorem dX5_lacks_0 : decode cX5_lacks 0 = .ok (.iconst 0, 1) := by decide +kernel
theorem dX5_lacks_1 : decode cX5_lacks 1 = .ok (.istore_n 2, 1) := by decide +kernel
theorem dX5_lacks_2 : decode cX5_lacks 2 = .ok (.iload_n 2, 1) := by decide +kernel
theorem dX5_lacks_3 : decode cX5_lacks 3 = .ok (.aload_n 0, 1) := by decide +kernel
theorem dX5_lacks_4 : decode cX5_lacks 4 = .ok (.getfield 97, 3) := by decide +kernel
theorem dX5_lacks_7 : decode cX5_lacks 7 = .ok (.if_icmp .ge 33, 3) := by decide +kernel
theorem dX5_lacks_10 : decode cX5_lacks 10 = .ok (.aload_n 0, 1) := by decide +kernel
theorem dX5_lacks_11 : decode cX5_lacks 11 = .ok (.getfield 44, 3) := by decide +kernel
theorem dX5_lacks_14 : decode cX5_lacks 14 = .ok (.iload_n 1, 1) := by decide +kernel
theorem dX5_lacks_15 : decode cX5_lacks 15 = .ok (.iaload, 1) := by decide +kernel
theorem dX5_lacks_16 : decode cX5_lacks 16 = .ok (.iload_n 2, 1) := by decide +kernel
theorem dX5_lacks_17 : decode cX5_lacks 17 = .ok (.ishr, 1) := by decide +kernel
theorem dX5_lacks_18 : decode cX5_lacks 18 = .ok (.iconst 1, 1) := by decide +kernel
theorem dX5_lacks_19 : decode cX5_lacks 19 = .ok (.iand, 1) := by decide +kernel
theorem dX5_lacks_20 : decode cX5_lacks 20 = .ok (.iconst 1, 1) := by decide +kernel
theorem dX5_lacks_21 : decode cX5_lacks 21 = .ok (.if_icmp .ne 13, 3) := by decide +kernel
theorem dX5_lacks_24 : decode cX5_lacks 24 = .ok (.aload_n 0, 1) := by decide +kernel
theorem dX5_lacks_25 : decode cX5_lacks 25 = .ok (.iload_n 2, 1) := by decide +kernel
theorem dX5_lacks_26 : decode cX5_lacks 26 = .ok (.invokevirtual 117, 3) := by decide +kernel
theorem dX5_lacks_29 : decode cX5_lacks 29 = .ok (.ifCond .ge 5, 3) := by decide +kernel
theorem dX5_lacks_32 : decode cX5_lacks 32 = .ok (.iconst 1, 1) := by decide +kernel
theorem dX5_lacks_33 : decode cX5_lacks 33 = .ok (.ireturn, 1) := by decide +kernel
theorem dX5_lacks_34 : decode cX5_lacks 34 = .ok (.iinc 2 1, 3) := by decide +kernel
theorem dX5_lacks_37 : decode cX5_lacks 37 = .ok (.goto (-35), 3) := by decide +kernel
theorem dX5_lacks_40 : decode cX5_lacks 40 = .ok (.iconst 0, 1) := by decide +kernel
theorem dX5_lacks_41 : decode cX5_lacks 41 = .ok (.ireturn, 1) := by decide +kernel
theorem dX5_why_0 : decode cX5_why 0 = .ok (.aload_n 0, 1) := by decide +kernel
theorem dX5_why_1 : decode cX5_why 1 = .ok (.getfield 71, 3) := by decide +kernel
theorem dX5_why_4 : decode cX5_why 4 = .ok (.ifCond .ge 6, 3) := by decide +kernel
theorem dX5_why_7 : decode cX5_why 7 = .ok (.bipush 116, 2) := by decide +kernel
theorem dX5_why_9 : decode cX5_why 9 = .ok (.ireturn, 1) := by decide +kernel
theorem dX5_why_10 : decode cX5_why 10 = .ok (.aload_n 0, 1) := by decide +kernel
theorem dX5_why_11 : decode cX5_why 11 = .ok (.iload_n 1, 1) := by decide +kernel
theorem dX5_why_12 : decode cX5_why 12 = .ok (.invokevirtual 117, 3) := by decide +kernel
theorem dX5_why_15 : decode cX5_why 15 = .ok (.ifCond .lt 6, 3) := by decide +kernel
theorem dX5_why_18 : decode cX5_why 18 = .ok (.bipush 104, 2) := by decide +kernel
theorem dX5_why_20 : decode cX5_why 20 = .ok (.ireturn, 1) := by decide +kernel
theorem dX5_why_21 : decode cX5_why 21 = .ok (.aload_n 0, 1) := by decide +kernel
theorem dX5_why_22 : decode cX5_why 22 = .ok (.getfield 28, 3) := by decide +kernel
theorem dX5_why_25 : decode cX5_why 25 = .ok (.iload_n 1, 1) := by decide +kernel
theorem dX5_why_26 : decode cX5_why 26 = .ok (.baload, 1) := by decide +kernel
theorem dX5_why_27 : decode cX5_why 27 = .ok (.ifCond .ne 6, 3) := by decide +kernel
theorem dX5_why_30 : decode cX5_why 30 = .ok (.bipush 102, 2) := by decide +kernel
theorem dX5_why_32 : decode cX5_why 32 = .ok (.ireturn, 1) := by decide +kernel
theorem dX5_why_33 : decode cX5_why 33 = .ok (.aload_n 0, 1) := by decide +kernel
theorem dX5_why_34 : decode cX5_why 34 = .ok (.iload_n 1, 1) := by decide +kernel
theorem dX5_why_35 : decode cX5_why 35 = .ok (.invokevirtual 160, 3) := by decide +kernel
theorem dX5_why_38 : decode cX5_why 38 = .ok (.ifCond .eq 6, 3) := by decide +kernel
theorem dX5_why_41 : decode cX5_why 41 = .ok (.bipush 110, 2) := by decide +kernel
theorem dX5_why_43 : decode cX5_why 43 = .ok (.ireturn, 1) := by decide +kernel
theorem dX5_why_44 : decode cX5_why 44 = .ok (.aload_n 0, 1) := by decide +kernel
theorem dX5_why_45 : decode cX5_why 45 = .ok (.getfield 19, 3) := by decide +kernel
theorem dX5_why_48 : decode cX5_why 48 = .ok (.iload_n 1, 1) := by decide +kernel
theorem dX5_why_49 : decode cX5_why 49 = .ok (.iaload, 1) := by decide +kernel
theorem dX5_why_50 : decode cX5_why 50 = .ok (.aload_n 0, 1) := by decide +kernel
theorem dX5_why_51 : decode cX5_why 51 = .ok (.getfield 53, 3) := by decide +kernel
theorem dX5_why_54 : decode cX5_why 54 = .ok (.aload_n 0, 1) := by decide +kernel
theorem dX5_why_55 : decode cX5_why 55 = .ok (.getfield 71, 3) := by decide +kernel
theorem dX5_why_58 : decode cX5_why 58 = .ok (.iaload, 1) := by decide +kernel
theorem dX5_why_59 : decode cX5_why 59 = .ok (.if_icmp .le 6, 3) := by decide +kernel
theorem dX5_why_62 : decode cX5_why 62 = .ok (.bipush 115, 2) := by decide +kernel
theorem dX5_why_64 : decode cX5_why 64 = .ok (.ireturn, 1) := by decide +kernel
theorem dX5_why_65 : decode cX5_why 65 = .ok (.aload_n 0, 1) := by decide +kernel
theorem dX5_why_66 : decode cX5_why 66 = .ok (.iload_n 1, 1) := by decide +kernel
theorem dX5_why_67 : decode cX5_why 67 = .ok (.invokevirtual 163, 3) := by decide +kernel
theorem dX5_why_70 : decode cX5_why 70 = .ok (.ifCond .eq 6, 3) := by decide +kernel
theorem dX5_why_73 : decode cX5_why 73 = .ok (.bipush 108, 2) := by decide +kernel
theorem dX5_why_75 : decode cX5_why 75 = .ok (.ireturn, 1) := by decide +kernel
theorem dX5_why_76 : decode cX5_why 76 = .ok (.aload_n 0, 1) := by decide +kernel
theorem dX5_why_77 : decode cX5_why 77 = .ok (.iload_n 1, 1) := by decide +kernel
theorem dX5_why_78 : decode cX5_why 78 = .ok (.invokevirtual 166, 3) := by decide +kernel
theorem dX5_why_81 : decode cX5_why 81 = .ok (.aload_n 0, 1) := by decide +kernel
theorem dX5_why_82 : decode cX5_why 82 = .ok (.getfield 19, 3) := by decide +kernel
theorem dX5_why_85 : decode cX5_why 85 = .ok (.iload_n 1, 1) := by decide +kernel
theorem dX5_why_86 : decode cX5_why 86 = .ok (.iaload, 1) := by decide +kernel
theorem dX5_why_87 : decode cX5_why 87 = .ok (.iadd, 1) := by decide +kernel
theorem dX5_why_88 : decode cX5_why 88 = .ok (.aload_n 0, 1) := by decide +kernel
theorem dX5_why_89 : decode cX5_why 89 = .ok (.getfield 59, 3) := by decide +kernel
theorem dX5_why_92 : decode cX5_why 92 = .ok (.aload_n 0, 1) := by decide +kernel
theorem dX5_why_93 : decode cX5_why 93 = .ok (.getfield 71, 3) := by decide +kernel
theorem dX5_why_96 : decode cX5_why 96 = .ok (.iaload, 1) := by decide +kernel
theorem dX5_why_97 : decode cX5_why 97 = .ok (.if_icmp .le 8, 3) := by decide +kernel
theorem dX5_why_100 : decode cX5_why 100 = .ok (.bipush 99, 2) := by decide +kernel
theorem dX5_why_102 : decode cX5_why 102 = .ok (.goto 5, 3) := by decide +kernel
theorem dX5_why_105 : decode cX5_why 105 = .ok (.bipush 45, 2) := by decide +kernel
theorem dX5_why_107 : decode cX5_why 107 = .ok (.ireturn, 1) := by decide +kernel
theorem dX5_reason_0 : decode cX5_reason 0 = .ok (.aload_n 0, 1) := by decide +kernel
theorem dX5_reason_1 : decode cX5_reason 1 = .ok (.aload_n 0, 1) := by decide +kernel
theorem dX5_reason_2 : decode cX5_reason 2 = .ok (.iload_n 1, 1) := by decide +kernel
theorem dX5_reason_3 : decode cX5_reason 3 = .ok (.invokevirtual 107, 3) := by decide +kernel
theorem dX5_reason_6 : decode cX5_reason 6 = .ok (.ifCond .eq 7, 3) := by decide +kernel
theorem dX5_reason_9 : decode cX5_reason 9 = .ok (.iconst 1, 1) := by decide +kernel
theorem dX5_reason_10 : decode cX5_reason 10 = .ok (.goto 4, 3) := by decide +kernel
theorem dX5_reason_13 : decode cX5_reason 13 = .ok (.iconst 0, 1) := by decide +kernel
theorem dX5_reason_14 : decode cX5_reason 14 = .ok (.invokevirtual 103, 3) := by decide +kernel
theorem dX5_reason_17 : decode cX5_reason 17 = .ok (.ifCond .eq 8, 3) := by decide +kernel
theorem dX5_reason_20 : decode cX5_reason 20 = .ok (.bipush 97, 2) := by decide +kernel
theorem dX5_reason_22 : decode cX5_reason 22 = .ok (.goto 8, 3) := by decide +kernel
theorem dX5_reason_25 : decode cX5_reason 25 = .ok (.aload_n 0, 1) := by decide +kernel
theorem dX5_reason_26 : decode cX5_reason 26 = .ok (.iload_n 1, 1) := by decide +kernel
theorem dX5_reason_27 : decode cX5_reason 27 = .ok (.invokevirtual 169, 3) := by decide +kernel
theorem dX5_reason_30 : decode cX5_reason 30 = .ok (.ireturn, 1) := by decide +kernel
theorem dX5_hangs_0 : decode cX5_hangs 0 = .ok (.aload_n 0, 1) := by decide +kernel
theorem dX5_hangs_1 : decode cX5_hangs 1 = .ok (.iload_n 1, 1) := by decide +kernel
theorem dX5_hangs_2 : decode cX5_hangs 2 = .ok (.invokevirtual 166, 3) := by decide +kernel
theorem dX5_hangs_5 : decode cX5_hangs 5 = .ok (.istore_n 2, 1) := by decide +kernel
theorem dX5_hangs_6 : decode cX5_hangs 6 = .ok (.aload_n 0, 1) := by decide +kernel
theorem dX5_hangs_7 : decode cX5_hangs 7 = .ok (.getfield 81, 3) := by decide +kernel
theorem dX5_hangs_10 : decode cX5_hangs 10 = .ok (.aload_n 0, 1) := by decide +kernel
theorem dX5_hangs_11 : decode cX5_hangs 11 = .ok (.getfield 100, 3) := by decide +kernel
theorem dX5_hangs_14 : decode cX5_hangs 14 = .ok (.aload_n 0, 1) := by decide +kernel
theorem dX5_hangs_15 : decode cX5_hangs 15 = .ok (.iload_n 1, 1) := by decide +kernel
theorem dX5_hangs_16 : decode cX5_hangs 16 = .ok (.invokevirtual 157, 3) := by decide +kernel
theorem dX5_hangs_19 : decode cX5_hangs 19 = .ok (.ifCond .eq 7, 3) := by decide +kernel
theorem dX5_hangs_22 : decode cX5_hangs 22 = .ok (.iconst 0, 1) := by decide +kernel
theorem dX5_hangs_23 : decode cX5_hangs 23 = .ok (.goto 7, 3) := by decide +kernel
theorem dX5_hangs_26 : decode cX5_hangs 26 = .ok (.aload_n 0, 1) := by decide +kernel
theorem dX5_hangs_27 : decode cX5_hangs 27 = .ok (.invokevirtual 154, 3) := by decide +kernel
theorem dX5_hangs_30 : decode cX5_hangs 30 = .ok (.aload_n 0, 1) := by decide +kernel
theorem dX5_hangs_31 : decode cX5_hangs 31 = .ok (.getfield 19, 3) := by decide +kernel
theorem dX5_hangs_34 : decode cX5_hangs 34 = .ok (.iload_n 1, 1) := by decide +kernel
theorem dX5_hangs_35 : decode cX5_hangs 35 = .ok (.iaload, 1) := by decide +kernel
theorem dX5_hangs_36 : decode cX5_hangs 36 = .ok (.iadd, 1) := by decide +kernel
theorem dX5_hangs_37 : decode cX5_hangs 37 = .ok (.iastore, 1) := by decide +kernel
theorem dX5_hangs_38 : decode cX5_hangs 38 = .ok (.aload_n 0, 1) := by decide +kernel
theorem dX5_hangs_39 : decode cX5_hangs 39 = .ok (.getfield 78, 3) := by decide +kernel
theorem dX5_hangs_42 : decode cX5_hangs 42 = .ok (.aload_n 0, 1) := by decide +kernel
theorem dX5_hangs_43 : decode cX5_hangs 43 = .ok (.getfield 100, 3) := by decide +kernel
theorem dX5_hangs_46 : decode cX5_hangs 46 = .ok (.iload_n 2, 1) := by decide +kernel
theorem dX5_hangs_47 : decode cX5_hangs 47 = .ok (.iastore, 1) := by decide +kernel
theorem dX5_hangs_48 : decode cX5_hangs 48 = .ok (.aload_n 0, 1) := by decide +kernel
theorem dX5_hangs_49 : decode cX5_hangs 49 = .ok (.getfield 75, 3) := by decide +kernel
theorem dX5_hangs_52 : decode cX5_hangs 52 = .ok (.aload_n 0, 1) := by decide +kernel
theorem dX5_hangs_53 : decode cX5_hangs 53 = .ok (.getfield 100, 3) := by decide +kernel
theorem dX5_hangs_56 : decode cX5_hangs 56 = .ok (.iload_n 1, 1) := by decide +kernel
theorem dX5_hangs_57 : decode cX5_hangs 57 = .ok (.iastore, 1) := by decide +kernel
theorem dX5_hangs_58 : decode cX5_hangs 58 = .ok (.aload_n 0, 1) := by decide +kernel
theorem dX5_hangs_59 : decode cX5_hangs 59 = .ok (.dup, 1) := by decide +kernel
theorem dX5_hangs_60 : decode cX5_hangs 60 = .ok (.getfield 100, 3) := by decide +kernel
theorem dX5_hangs_63 : decode cX5_hangs 63 = .ok (.iconst 1, 1) := by decide +kernel
theorem dX5_hangs_64 : decode cX5_hangs 64 = .ok (.iadd, 1) := by decide +kernel
theorem dX5_hangs_65 : decode cX5_hangs 65 = .ok (.putfield 100, 3) := by decide +kernel
theorem dX5_hangs_68 : decode cX5_hangs 68 = .ok (.return_, 1) := by decide +kernel
theorem dX5_hang_0 : decode cX5_hang 0 = .ok (.aload_n 0, 1) := by decide +kernel
theorem dX5_hang_1 : decode cX5_hang 1 = .ok (.aload_n 0, 1) := by decide +kernel
theorem dX5_hang_2 : decode cX5_hang 2 = .ok (.iload_n 1, 1) := by decide +kernel
theorem dX5_hang_3 : decode cX5_hang 3 = .ok (.invokevirtual 107, 3) := by decide +kernel
theorem dX5_hang_6 : decode cX5_hang 6 = .ok (.ifCond .eq 7, 3) := by decide +kernel
theorem dX5_hang_9 : decode cX5_hang 9 = .ok (.iconst 1, 1) := by decide +kernel
theorem dX5_hang_10 : decode cX5_hang 10 = .ok (.goto 18, 3) := by decide +kernel
theorem dX5_hang_13 : decode cX5_hang 13 = .ok (.aload_n 0, 1) := by decide +kernel
theorem dX5_hang_14 : decode cX5_hang 14 = .ok (.iload_n 1, 1) := by decide +kernel
theorem dX5_hang_15 : decode cX5_hang 15 = .ok (.invokevirtual 169, 3) := by decide +kernel
theorem dX5_hang_18 : decode cX5_hang 18 = .ok (.bipush 45, 2) := by decide +kernel
theorem dX5_hang_20 : decode cX5_hang 20 = .ok (.if_icmp .eq 7, 3) := by decide +kernel
theorem dX5_hang_23 : decode cX5_hang 23 = .ok (.iconst 2, 1) := by decide +kernel
theorem dX5_hang_24 : decode cX5_hang 24 = .ok (.goto 4, 3) := by decide +kernel
theorem dX5_hang_27 : decode cX5_hang 27 = .ok (.iconst 0, 1) := by decide +kernel
theorem dX5_hang_28 : decode cX5_hang 28 = .ok (.invokevirtual 103, 3) := by decide +kernel
theorem dX5_hang_31 : decode cX5_hang 31 = .ok (.ifCond .eq 5, 3) := by decide +kernel
theorem dX5_hang_34 : decode cX5_hang 34 = .ok (.iconst 0, 1) := by decide +kernel
theorem dX5_hang_35 : decode cX5_hang 35 = .ok (.ireturn, 1) := by decide +kernel
theorem dX5_hang_36 : decode cX5_hang 36 = .ok (.aload_n 0, 1) := by decide +kernel
theorem dX5_hang_37 : decode cX5_hang 37 = .ok (.iload_n 1, 1) := by decide +kernel
theorem dX5_hang_38 : decode cX5_hang 38 = .ok (.invokevirtual 173, 3) := by decide +kernel
theorem dX5_hang_41 : decode cX5_hang 41 = .ok (.aload_n 0, 1) := by decide +kernel
theorem dX5_hang_42 : decode cX5_hang 42 = .ok (.invokevirtual 150, 3) := by decide +kernel
theorem dX5_hang_45 : decode cX5_hang 45 = .ok (.ireturn, 1) := by decide +kernel
theorem dX5_takeDown_0 : decode cX5_takeDown 0 = .ok (.aload_n 0, 1) := by decide +kernel
theorem dX5_takeDown_1 : decode cX5_takeDown 1 = .ok (.aload_n 0, 1) := by decide +kernel
theorem dX5_takeDown_2 : decode cX5_takeDown 2 = .ok (.getfield 100, 3) := by decide +kernel
theorem dX5_takeDown_5 : decode cX5_takeDown 5 = .ok (.ifCond .ne 7, 3) := by decide +kernel
theorem dX5_takeDown_8 : decode cX5_takeDown 8 = .ok (.iconst 1, 1) := by decide +kernel
theorem dX5_takeDown_9 : decode cX5_takeDown 9 = .ok (.goto 4, 3) := by decide +kernel
theorem dX5_takeDown_12 : decode cX5_takeDown 12 = .ok (.iconst 0, 1) := by decide +kernel
theorem dX5_takeDown_13 : decode cX5_takeDown 13 = .ok (.invokevirtual 103, 3) := by decide +kernel
theorem dX5_takeDown_16 : decode cX5_takeDown 16 = .ok (.ifCond .eq 5, 3) := by decide +kernel
theorem dX5_takeDown_19 : decode cX5_takeDown 19 = .ok (.iconst 0, 1) := by decide +kernel
theorem dX5_takeDown_20 : decode cX5_takeDown 20 = .ok (.ireturn, 1) := by decide +kernel
theorem dX5_takeDown_21 : decode cX5_takeDown 21 = .ok (.aload_n 0, 1) := by decide +kernel
theorem dX5_takeDown_22 : decode cX5_takeDown 22 = .ok (.dup, 1) := by decide +kernel
theorem dX5_takeDown_23 : decode cX5_takeDown 23 = .ok (.getfield 100, 3) := by decide +kernel
theorem dX5_takeDown_26 : decode cX5_takeDown 26 = .ok (.iconst 1, 1) := by decide +kernel
theorem dX5_takeDown_27 : decode cX5_takeDown 27 = .ok (.isub, 1) := by decide +kernel
theorem dX5_takeDown_28 : decode cX5_takeDown 28 = .ok (.putfield 100, 3) := by decide +kernel
theorem dX5_takeDown_31 : decode cX5_takeDown 31 = .ok (.aload_n 0, 1) := by decide +kernel
theorem dX5_takeDown_32 : decode cX5_takeDown 32 = .ok (.getfield 75, 3) := by decide +kernel
theorem dX5_takeDown_35 : decode cX5_takeDown 35 = .ok (.aload_n 0, 1) := by decide +kernel
theorem dX5_takeDown_36 : decode cX5_takeDown 36 = .ok (.getfield 100, 3) := by decide +kernel
theorem dX5_takeDown_39 : decode cX5_takeDown 39 = .ok (.iaload, 1) := by decide +kernel
theorem dX5_takeDown_40 : decode cX5_takeDown 40 = .ok (.ireturn, 1) := by decide +kernel
theorem dX5_hung_0 : decode cX5_hung 0 = .ok (.aload_n 0, 1) := by decide +kernel
theorem dX5_hung_1 : decode cX5_hung 1 = .ok (.aload_n 0, 1) := by decide +kernel
theorem dX5_hung_2 : decode cX5_hung 2 = .ok (.getfield 100, 3) := by decide +kernel
theorem dX5_hung_5 : decode cX5_hung 5 = .ok (.invokevirtual 177, 3) := by decide +kernel
theorem dX5_hung_8 : decode cX5_hung 8 = .ok (.ireturn, 1) := by decide +kernel
theorem dX5_hungAt_0 : decode cX5_hungAt 0 = .ok (.aload_n 0, 1) := by decide +kernel
theorem dX5_hungAt_1 : decode cX5_hungAt 1 = .ok (.iload_n 1, 1) := by decide +kernel
theorem dX5_hungAt_2 : decode cX5_hungAt 2 = .ok (.iconst 0, 1) := by decide +kernel
theorem dX5_hungAt_3 : decode cX5_hungAt 3 = .ok (.aload_n 0, 1) := by decide +kernel
theorem dX5_hungAt_4 : decode cX5_hungAt 4 = .ok (.getfield 100, 3) := by decide +kernel
theorem dX5_hungAt_7 : decode cX5_hungAt 7 = .ok (.iconst 1, 1) := by decide +kernel
theorem dX5_hungAt_8 : decode cX5_hungAt 8 = .ok (.isub, 1) := by decide +kernel
theorem dX5_hungAt_9 : decode cX5_hungAt 9 = .ok (.invokestatic 93, 3) := by decide +kernel
theorem dX5_hungAt_12 : decode cX5_hungAt 12 = .ok (.ifCond .eq 7, 3) := by decide +kernel
theorem dX5_hungAt_15 : decode cX5_hungAt 15 = .ok (.iconst 0, 1) := by decide +kernel
theorem dX5_hungAt_16 : decode cX5_hungAt 16 = .ok (.goto 4, 3) := by decide +kernel
theorem dX5_hungAt_19 : decode cX5_hungAt 19 = .ok (.iconst 1, 1) := by decide +kernel
theorem dX5_hungAt_20 : decode cX5_hungAt 20 = .ok (.invokevirtual 103, 3) := by decide +kernel
theorem dX5_hungAt_23 : decode cX5_hungAt 23 = .ok (.ifCond .eq 7, 3) := by decide +kernel
theorem dX5_hungAt_26 : decode cX5_hungAt 26 = .ok (.iconst 0, 1) := by decide +kernel
theorem dX5_hungAt_27 : decode cX5_hungAt 27 = .ok (.goto 9, 3) := by decide +kernel
theorem dX5_hungAt_30 : decode cX5_hungAt 30 = .ok (.aload_n 0, 1) := by decide +kernel
theorem dX5_hungAt_31 : decode cX5_hungAt 31 = .ok (.getfield 75, 3) := by decide +kernel
theorem dX5_hungAt_34 : decode cX5_hungAt 34 = .ok (.iload_n 1, 1) := by decide +kernel
theorem dX5_hungAt_35 : decode cX5_hungAt 35 = .ok (.iaload, 1) := by decide +kernel
theorem dX5_hungAt_36 : decode cX5_hungAt 36 = .ok (.ireturn, 1) := by decide +kernel
theorem dX5_beginOf_0 : decode cX5_beginOf 0 = .ok (.aload_n 0, 1) := by decide +kernel
theorem dX5_beginOf_1 : decode cX5_beginOf 1 = .ok (.aload_n 0, 1) := by decide +kernel
theorem dX5_beginOf_2 : decode cX5_beginOf 2 = .ok (.iload_n 1, 1) := by decide +kernel
theorem dX5_beginOf_3 : decode cX5_beginOf 3 = .ok (.invokevirtual 107, 3) := by decide +kernel
theorem dX5_beginOf_6 : decode cX5_beginOf 6 = .ok (.ifCond .ne 11, 3) := by decide +kernel
theorem dX5_beginOf_9 : decode cX5_beginOf 9 = .ok (.aload_n 0, 1) := by decide +kernel
theorem dX5_beginOf_10 : decode cX5_beginOf 10 = .ok (.iload_n 1, 1) := by decide +kernel
theorem dX5_beginOf_11 : decode cX5_beginOf 11 = .ok (.invokevirtual 117, 3) := by decide +kernel
theorem dX5_beginOf_14 : decode cX5_beginOf 14 = .ok (.ifCond .ge 7, 3) := by decide +kernel
theorem dX5_beginOf_17 : decode cX5_beginOf 17 = .ok (.iconst 1, 1) := by decide +kernel
theorem dX5_beginOf_18 : decode cX5_beginOf 18 = .ok (.goto 4, 3) := by decide +kernel
theorem dX5_beginOf_21 : decode cX5_beginOf 21 = .ok (.iconst 0, 1) := by decide +kernel
theorem dX5_beginOf_22 : decode cX5_beginOf 22 = .ok (.invokevirtual 103, 3) := by decide +kernel
theorem dX5_beginOf_25 : decode cX5_beginOf 25 = .ok (.ifCond .eq 7, 3) := by decide +kernel
theorem dX5_beginOf_28 : decode cX5_beginOf 28 = .ok (.iconst 0, 1) := by decide +kernel
theorem dX5_beginOf_29 : decode cX5_beginOf 29 = .ok (.goto 13, 3) := by decide +kernel
theorem dX5_beginOf_32 : decode cX5_beginOf 32 = .ok (.aload_n 0, 1) := by decide +kernel
theorem dX5_beginOf_33 : decode cX5_beginOf 33 = .ok (.getfield 78, 3) := by decide +kernel
theorem dX5_beginOf_36 : decode cX5_beginOf 36 = .ok (.aload_n 0, 1) := by decide +kernel
theorem dX5_beginOf_37 : decode cX5_beginOf 37 = .ok (.iload_n 1, 1) := by decide +kernel
theorem dX5_beginOf_38 : decode cX5_beginOf 38 = .ok (.invokevirtual 117, 3) := by decide +kernel
theorem dX5_beginOf_41 : decode cX5_beginOf 41 = .ok (.iaload, 1) := by decide +kernel
theorem dX5_beginOf_42 : decode cX5_beginOf 42 = .ok (.ireturn, 1) := by decide +kernel
theorem dX5_end_0 : decode cX5_end 0 = .ok (.aload_n 0, 1) := by decide +kernel
theorem dX5_end_1 : decode cX5_end 1 = .ok (.aload_n 0, 1) := by decide +kernel
theorem dX5_end_2 : decode cX5_end 2 = .ok (.invokevirtual 150, 3) := by decide +kernel
theorem dX5_end_5 : decode cX5_end 5 = .ok (.invokevirtual 177, 3) := by decide +kernel
theorem dX5_end_8 : decode cX5_end 8 = .ok (.ireturn, 1) := by decide +kernel
theorem dX5_work_0 : decode cX5_work 0 = .ok (.aload_n 0, 1) := by decide +kernel
theorem dX5_work_1 : decode cX5_work 1 = .ok (.aload_n 0, 1) := by decide +kernel
theorem dX5_work_2 : decode cX5_work 2 = .ok (.invokevirtual 154, 3) := by decide +kernel
theorem dX5_work_5 : decode cX5_work 5 = .ok (.invokevirtual 177, 3) := by decide +kernel
theorem dX5_work_8 : decode cX5_work 8 = .ok (.ireturn, 1) := by decide +kernel
theorem dX5_costs_0 : decode cX5_costs 0 = .ok (.iconst 0, 1) := by decide +kernel
theorem dX5_costs_1 : decode cX5_costs 1 = .ok (.istore_n 1, 1) := by decide +kernel
theorem dX5_costs_2 : decode cX5_costs 2 = .ok (.iconst 0, 1) := by decide +kernel
theorem dX5_costs_3 : decode cX5_costs 3 = .ok (.istore_n 2, 1) := by decide +kernel
theorem dX5_costs_4 : decode cX5_costs 4 = .ok (.iload_n 2, 1) := by decide +kernel
theorem dX5_costs_5 : decode cX5_costs 5 = .ok (.aload_n 0, 1) := by decide +kernel
theorem dX5_costs_6 : decode cX5_costs 6 = .ok (.getfield 100, 3) := by decide +kernel
theorem dX5_costs_9 : decode cX5_costs 9 = .ok (.if_icmp .ge 106, 3) := by decide +kernel
theorem dX5_costs_12 : decode cX5_costs 12 = .ok (.aload_n 0, 1) := by decide +kernel
theorem dX5_costs_13 : decode cX5_costs 13 = .ok (.getfield 65, 3) := by decide +kernel
theorem dX5_costs_16 : decode cX5_costs 16 = .ok (.aload_n 0, 1) := by decide +kernel
theorem dX5_costs_17 : decode cX5_costs 17 = .ok (.getfield 71, 3) := by decide +kernel
theorem dX5_costs_20 : decode cX5_costs 20 = .ok (.iaload, 1) := by decide +kernel
theorem dX5_costs_21 : decode cX5_costs 21 = .ok (.aload_n 0, 1) := by decide +kernel
theorem dX5_costs_22 : decode cX5_costs 22 = .ok (.getfield 78, 3) := by decide +kernel
theorem dX5_costs_25 : decode cX5_costs 25 = .ok (.iload_n 2, 1) := by decide +kernel
theorem dX5_costs_26 : decode cX5_costs 26 = .ok (.iaload, 1) := by decide +kernel
theorem dX5_costs_27 : decode cX5_costs 27 = .ok (.isub, 1) := by decide +kernel
theorem dX5_costs_28 : decode cX5_costs 28 = .ok (.istore_n 3, 1) := by decide +kernel
theorem dX5_costs_29 : decode cX5_costs 29 = .ok (.iload_n 3, 1) := by decide +kernel
theorem dX5_costs_30 : decode cX5_costs 30 = .ok (.ifCond .ge 7, 3) := by decide +kernel
theorem dX5_costs_33 : decode cX5_costs 33 = .ok (.iconst 0, 1) := by decide +kernel
theorem dX5_costs_34 : decode cX5_costs 34 = .ok (.goto 33, 3) := by decide +kernel
theorem dX5_costs_37 : decode cX5_costs 37 = .ok (.iload_n 3, 1) := by decide +kernel
theorem dX5_costs_38 : decode cX5_costs 38 = .ok (.aload_n 0, 1) := by decide +kernel
theorem dX5_costs_39 : decode cX5_costs 39 = .ok (.getfield 19, 3) := by decide +kernel
theorem dX5_costs_42 : decode cX5_costs 42 = .ok (.aload_n 0, 1) := by decide +kernel
theorem dX5_costs_43 : decode cX5_costs 43 = .ok (.getfield 75, 3) := by decide +kernel
theorem dX5_costs_46 : decode cX5_costs 46 = .ok (.iload_n 2, 1) := by decide +kernel
theorem dX5_costs_47 : decode cX5_costs 47 = .ok (.iaload, 1) := by decide +kernel
theorem dX5_costs_48 : decode cX5_costs 48 = .ok (.iaload, 1) := by decide +kernel
theorem dX5_costs_49 : decode cX5_costs 49 = .ok (.if_icmp .le 17, 3) := by decide +kernel
theorem dX5_costs_52 : decode cX5_costs 52 = .ok (.aload_n 0, 1) := by decide +kernel
theorem dX5_costs_53 : decode cX5_costs 53 = .ok (.getfield 19, 3) := by decide +kernel
theorem dX5_costs_56 : decode cX5_costs 56 = .ok (.aload_n 0, 1) := by decide +kernel
theorem dX5_costs_57 : decode cX5_costs 57 = .ok (.getfield 75, 3) := by decide +kernel
theorem dX5_costs_60 : decode cX5_costs 60 = .ok (.iload_n 2, 1) := by decide +kernel
theorem dX5_costs_61 : decode cX5_costs 61 = .ok (.iaload, 1) := by decide +kernel
theorem dX5_costs_62 : decode cX5_costs 62 = .ok (.iaload, 1) := by decide +kernel
theorem dX5_costs_63 : decode cX5_costs 63 = .ok (.goto 4, 3) := by decide +kernel
theorem dX5_costs_66 : decode cX5_costs 66 = .ok (.iload_n 3, 1) := by decide +kernel
theorem dX5_costs_67 : decode cX5_costs 67 = .ok (.istore 4, 2) := by decide +kernel
theorem dX5_costs_69 : decode cX5_costs 69 = .ok (.iload_n 1, 1) := by decide +kernel
theorem dX5_costs_70 : decode cX5_costs 70 = .ok (.iload 4, 2) := by decide +kernel
theorem dX5_costs_72 : decode cX5_costs 72 = .ok (.aload_n 0, 1) := by decide +kernel
theorem dX5_costs_73 : decode cX5_costs 73 = .ok (.getfield 62, 3) := by decide +kernel
theorem dX5_costs_76 : decode cX5_costs 76 = .ok (.aload_n 0, 1) := by decide +kernel
theorem dX5_costs_77 : decode cX5_costs 77 = .ok (.getfield 71, 3) := by decide +kernel
theorem dX5_costs_80 : decode cX5_costs 80 = .ok (.iaload, 1) := by decide +kernel
theorem dX5_costs_81 : decode cX5_costs 81 = .ok (.imul, 1) := by decide +kernel
theorem dX5_costs_82 : decode cX5_costs 82 = .ok (.aload_n 0, 1) := by decide +kernel
theorem dX5_costs_83 : decode cX5_costs 83 = .ok (.getfield 19, 3) := by decide +kernel
theorem dX5_costs_86 : decode cX5_costs 86 = .ok (.aload_n 0, 1) := by decide +kernel
theorem dX5_costs_87 : decode cX5_costs 87 = .ok (.getfield 75, 3) := by decide +kernel
theorem dX5_costs_90 : decode cX5_costs 90 = .ok (.iload_n 2, 1) := by decide +kernel
theorem dX5_costs_91 : decode cX5_costs 91 = .ok (.iaload, 1) := by decide +kernel
theorem dX5_costs_92 : decode cX5_costs 92 = .ok (.iaload, 1) := by decide +kernel
theorem dX5_costs_93 : decode cX5_costs 93 = .ok (.iload 4, 2) := by decide +kernel
theorem dX5_costs_95 : decode cX5_costs 95 = .ok (.isub, 1) := by decide +kernel
theorem dX5_costs_96 : decode cX5_costs 96 = .ok (.aload_n 0, 1) := by decide +kernel
theorem dX5_costs_97 : decode cX5_costs 97 = .ok (.getfield 68, 3) := by decide +kernel
theorem dX5_costs_100 : decode cX5_costs 100 = .ok (.aload_n 0, 1) := by decide +kernel
theorem dX5_costs_101 : decode cX5_costs 101 = .ok (.getfield 71, 3) := by decide +kernel
theorem dX5_costs_104 : decode cX5_costs 104 = .ok (.iaload, 1) := by decide +kernel
theorem dX5_costs_105 : decode cX5_costs 105 = .ok (.imul, 1) := by decide +kernel
theorem dX5_costs_106 : decode cX5_costs 106 = .ok (.iadd, 1) := by decide +kernel
theorem dX5_costs_107 : decode cX5_costs 107 = .ok (.iadd, 1) := by decide +kernel
theorem dX5_costs_108 : decode cX5_costs 108 = .ok (.istore_n 1, 1) := by decide +kernel
theorem dX5_costs_109 : decode cX5_costs 109 = .ok (.iinc 2 1, 3) := by decide +kernel
theorem dX5_costs_112 : decode cX5_costs 112 = .ok (.goto (-108), 3) := by decide +kernel
theorem dX5_costs_115 : decode cX5_costs 115 = .ok (.iload_n 1, 1) := by decide +kernel
theorem dX5_costs_116 : decode cX5_costs 116 = .ok (.ireturn, 1) := by decide +kernel
theorem dX5_told_0 : decode cX5_told 0 = .ok (.aload_n 0, 1) := by decide +kernel
theorem dX5_told_1 : decode cX5_told 1 = .ok (.iconst 0, 1) := by decide +kernel
theorem dX5_told_2 : decode cX5_told 2 = .ok (.putfield 87, 3) := by decide +kernel
theorem dX5_told_5 : decode cX5_told 5 = .ok (.aload_n 0, 1) := by decide +kernel
theorem dX5_told_6 : decode cX5_told 6 = .ok (.invokevirtual 180, 3) := by decide +kernel
theorem dX5_told_9 : decode cX5_told 9 = .ok (.i2l, 1) := by decide +kernel
theorem dX5_told_10 : decode cX5_told 10 = .ok (.lreturn, 1) := by decide +kernel
theorem dX5_cost_0 : decode cX5_cost 0 = .ok (.aload_n 0, 1) := by decide +kernel
theorem dX5_cost_1 : decode cX5_cost 1 = .ok (.invokevirtual 183, 3) := by decide +kernel
theorem dX5_cost_4 : decode cX5_cost 4 = .ok (.lreturn, 1) := by decide +kernel
theorem dX5_costByMinutes_0 : decode cX5_costByMinutes 0 = .ok (.aload_n 0, 1) := by decide +kernel
theorem dX5_costByMinutes_1 : decode cX5_costByMinutes 1 = .ok (.invokevirtual 183, 3) := by decide +kernel
theorem dX5_costByMinutes_4 : decode cX5_costByMinutes 4 = .ok (.lreturn, 1) := by decide +kernel
theorem dX5_worth_0 : decode cX5_worth 0 = .ok (.iconst 0, 1) := by decide +kernel
theorem dX5_worth_1 : decode cX5_worth 1 = .ok (.istore_n 1, 1) := by decide +kernel
theorem dX5_worth_2 : decode cX5_worth 2 = .ok (.iconst 0, 1) := by decide +kernel
theorem dX5_worth_3 : decode cX5_worth 3 = .ok (.istore_n 2, 1) := by decide +kernel
theorem dX5_worth_4 : decode cX5_worth 4 = .ok (.iload_n 2, 1) := by decide +kernel
theorem dX5_worth_5 : decode cX5_worth 5 = .ok (.aload_n 0, 1) := by decide +kernel
theorem dX5_worth_6 : decode cX5_worth 6 = .ok (.getfield 100, 3) := by decide +kernel
theorem dX5_worth_9 : decode cX5_worth 9 = .ok (.if_icmp .ge 23, 3) := by decide +kernel
theorem dX5_worth_12 : decode cX5_worth 12 = .ok (.iload_n 1, 1) := by decide +kernel
theorem dX5_worth_13 : decode cX5_worth 13 = .ok (.aload_n 0, 1) := by decide +kernel
theorem dX5_worth_14 : decode cX5_worth 14 = .ok (.getfield 22, 3) := by decide +kernel
theorem dX5_worth_17 : decode cX5_worth 17 = .ok (.aload_n 0, 1) := by decide +kernel
theorem dX5_worth_18 : decode cX5_worth 18 = .ok (.getfield 75, 3) := by decide +kernel
theorem dX5_worth_21 : decode cX5_worth 21 = .ok (.iload_n 2, 1) := by decide +kernel
theorem dX5_worth_22 : decode cX5_worth 22 = .ok (.iaload, 1) := by decide +kernel
theorem dX5_worth_23 : decode cX5_worth 23 = .ok (.iaload, 1) := by decide +kernel
theorem dX5_worth_24 : decode cX5_worth 24 = .ok (.iadd, 1) := by decide +kernel
theorem dX5_worth_25 : decode cX5_worth 25 = .ok (.istore_n 1, 1) := by decide +kernel
theorem dX5_worth_26 : decode cX5_worth 26 = .ok (.iinc 2 1, 3) := by decide +kernel
theorem dX5_worth_29 : decode cX5_worth 29 = .ok (.goto (-25), 3) := by decide +kernel
theorem dX5_worth_32 : decode cX5_worth 32 = .ok (.iload_n 1, 1) := by decide +kernel
theorem dX5_worth_33 : decode cX5_worth 33 = .ok (.ireturn, 1) := by decide +kernel
theorem dX5_isBetter_0 : decode cX5_isBetter 0 = .ok (.aload_n 0, 1) := by decide +kernel
theorem dX5_isBetter_1 : decode cX5_isBetter 1 = .ok (.getfield 187, 3) := by decide +kernel
theorem dX5_isBetter_4 : decode cX5_isBetter 4 = .ok (.iconst 1, 1) := by decide +kernel
theorem dX5_isBetter_5 : decode cX5_isBetter 5 = .ok (.if_icmp .ne 5, 3) := by decide +kernel
theorem dX5_isBetter_8 : decode cX5_isBetter 8 = .ok (.iconst 1, 1) := by decide +kernel
theorem dX5_isBetter_9 : decode cX5_isBetter 9 = .ok (.ireturn, 1) := by decide +kernel
theorem dX5_isBetter_10 : decode cX5_isBetter 10 = .ok (.aload_n 0, 1) := by decide +kernel
theorem dX5_isBetter_11 : decode cX5_isBetter 11 = .ok (.invokevirtual 190, 3) := by decide +kernel
theorem dX5_isBetter_14 : decode cX5_isBetter 14 = .ok (.aload_n 0, 1) := by decide +kernel
theorem dX5_isBetter_15 : decode cX5_isBetter 15 = .ok (.getfield 193, 3) := by decide +kernel
theorem dX5_isBetter_18 : decode cX5_isBetter 18 = .ok (.if_icmp .eq 20, 3) := by decide +kernel
theorem dX5_isBetter_21 : decode cX5_isBetter 21 = .ok (.aload_n 0, 1) := by decide +kernel
theorem dX5_isBetter_22 : decode cX5_isBetter 22 = .ok (.invokevirtual 190, 3) := by decide +kernel
theorem dX5_isBetter_25 : decode cX5_isBetter 25 = .ok (.aload_n 0, 1) := by decide +kernel
theorem dX5_isBetter_26 : decode cX5_isBetter 26 = .ok (.getfield 193, 3) := by decide +kernel
theorem dX5_isBetter_29 : decode cX5_isBetter 29 = .ok (.if_icmp .le 7, 3) := by decide +kernel
theorem dX5_isBetter_32 : decode cX5_isBetter 32 = .ok (.iconst 1, 1) := by decide +kernel
theorem dX5_isBetter_33 : decode cX5_isBetter 33 = .ok (.goto 4, 3) := by decide +kernel
theorem dX5_isBetter_36 : decode cX5_isBetter 36 = .ok (.iconst 0, 1) := by decide +kernel
theorem dX5_isBetter_37 : decode cX5_isBetter 37 = .ok (.ireturn, 1) := by decide +kernel
theorem dX5_isBetter_38 : decode cX5_isBetter 38 = .ok (.aload_n 0, 1) := by decide +kernel
theorem dX5_isBetter_39 : decode cX5_isBetter 39 = .ok (.invokevirtual 150, 3) := by decide +kernel
theorem dX5_isBetter_42 : decode cX5_isBetter 42 = .ok (.aload_n 0, 1) := by decide +kernel
theorem dX5_isBetter_43 : decode cX5_isBetter 43 = .ok (.getfield 196, 3) := by decide +kernel
theorem dX5_isBetter_46 : decode cX5_isBetter 46 = .ok (.if_icmp .eq 22, 3) := by decide +kernel
theorem dX5_isBetter_49 : decode cX5_isBetter 49 = .ok (.aload_n 0, 1) := by decide +kernel
theorem dX5_isBetter_50 : decode cX5_isBetter 50 = .ok (.invokevirtual 150, 3) := by decide +kernel
theorem dX5_isBetter_53 : decode cX5_isBetter 53 = .ok (.aload_n 0, 1) := by decide +kernel
theorem dX5_isBetter_54 : decode cX5_isBetter 54 = .ok (.getfield 196, 3) := by decide +kernel
theorem dX5_isBetter_57 : decode cX5_isBetter 57 = .ok (.if_icmp .ge 7, 3) := by decide +kernel
theorem dX5_isBetter_60 : decode cX5_isBetter 60 = .ok (.iconst 1, 1) := by decide +kernel
theorem dX5_isBetter_61 : decode cX5_isBetter 61 = .ok (.goto 23, 3) := by decide +kernel
theorem dX5_isBetter_64 : decode cX5_isBetter 64 = .ok (.iconst 0, 1) := by decide +kernel
theorem dX5_isBetter_65 : decode cX5_isBetter 65 = .ok (.goto 19, 3) := by decide +kernel
theorem dX5_isBetter_68 : decode cX5_isBetter 68 = .ok (.aload_n 0, 1) := by decide +kernel
theorem dX5_isBetter_69 : decode cX5_isBetter 69 = .ok (.invokevirtual 180, 3) := by decide +kernel
theorem dX5_isBetter_72 : decode cX5_isBetter 72 = .ok (.aload_n 0, 1) := by decide +kernel
theorem dX5_isBetter_73 : decode cX5_isBetter 73 = .ok (.getfield 199, 3) := by decide +kernel
theorem dX5_isBetter_76 : decode cX5_isBetter 76 = .ok (.if_icmp .ge 7, 3) := by decide +kernel
theorem dX5_isBetter_79 : decode cX5_isBetter 79 = .ok (.iconst 1, 1) := by decide +kernel
theorem dX5_isBetter_80 : decode cX5_isBetter 80 = .ok (.goto 4, 3) := by decide +kernel
theorem dX5_isBetter_83 : decode cX5_isBetter 83 = .ok (.iconst 0, 1) := by decide +kernel
theorem dX5_isBetter_84 : decode cX5_isBetter 84 = .ok (.ireturn, 1) := by decide +kernel
theorem dX5_tries_0 : decode cX5_tries 0 = .ok (.aload_n 0, 1) := by decide +kernel
theorem dX5_tries_1 : decode cX5_tries 1 = .ok (.dup, 1) := by decide +kernel
theorem dX5_tries_2 : decode cX5_tries 2 = .ok (.getfield 187, 3) := by decide +kernel
theorem dX5_tries_5 : decode cX5_tries 5 = .ok (.iconst 1, 1) := by decide +kernel
theorem dX5_tries_6 : decode cX5_tries 6 = .ok (.iadd, 1) := by decide +kernel
theorem dX5_tries_7 : decode cX5_tries 7 = .ok (.putfield 187, 3) := by decide +kernel
theorem dX5_tries_10 : decode cX5_tries 10 = .ok (.aload_n 0, 1) := by decide +kernel
theorem dX5_tries_11 : decode cX5_tries 11 = .ok (.invokevirtual 202, 3) := by decide +kernel
theorem dX5_tries_14 : decode cX5_tries 14 = .ok (.ifCond .eq 63, 3) := by decide +kernel
theorem dX5_tries_17 : decode cX5_tries 17 = .ok (.aload_n 0, 1) := by decide +kernel
theorem dX5_tries_18 : decode cX5_tries 18 = .ok (.aload_n 0, 1) := by decide +kernel
theorem dX5_tries_19 : decode cX5_tries 19 = .ok (.invokevirtual 190, 3) := by decide +kernel
theorem dX5_tries_22 : decode cX5_tries 22 = .ok (.putfield 193, 3) := by decide +kernel
theorem dX5_tries_25 : decode cX5_tries 25 = .ok (.aload_n 0, 1) := by decide +kernel
theorem dX5_tries_26 : decode cX5_tries 26 = .ok (.aload_n 0, 1) := by decide +kernel
theorem dX5_tries_27 : decode cX5_tries 27 = .ok (.invokevirtual 150, 3) := by decide +kernel
theorem dX5_tries_30 : decode cX5_tries 30 = .ok (.putfield 196, 3) := by decide +kernel
theorem dX5_tries_33 : decode cX5_tries 33 = .ok (.aload_n 0, 1) := by decide +kernel
theorem dX5_tries_34 : decode cX5_tries 34 = .ok (.aload_n 0, 1) := by decide +kernel
theorem dX5_tries_35 : decode cX5_tries 35 = .ok (.invokevirtual 180, 3) := by decide +kernel
theorem dX5_tries_38 : decode cX5_tries 38 = .ok (.putfield 199, 3) := by decide +kernel
theorem dX5_tries_41 : decode cX5_tries 41 = .ok (.aload_n 0, 1) := by decide +kernel
theorem dX5_tries_42 : decode cX5_tries 42 = .ok (.aload_n 0, 1) := by decide +kernel
theorem dX5_tries_43 : decode cX5_tries 43 = .ok (.getfield 100, 3) := by decide +kernel
theorem dX5_tries_46 : decode cX5_tries 46 = .ok (.putfield 206, 3) := by decide +kernel
theorem dX5_tries_49 : decode cX5_tries 49 = .ok (.iconst 0, 1) := by decide +kernel
theorem dX5_tries_50 : decode cX5_tries 50 = .ok (.istore_n 1, 1) := by decide +kernel
theorem dX5_tries_51 : decode cX5_tries 51 = .ok (.iload_n 1, 1) := by decide +kernel
theorem dX5_tries_52 : decode cX5_tries 52 = .ok (.aload_n 0, 1) := by decide +kernel
theorem dX5_tries_53 : decode cX5_tries 53 = .ok (.getfield 100, 3) := by decide +kernel
theorem dX5_tries_56 : decode cX5_tries 56 = .ok (.if_icmp .ge 21, 3) := by decide +kernel
theorem dX5_tries_59 : decode cX5_tries 59 = .ok (.aload_n 0, 1) := by decide +kernel
theorem dX5_tries_60 : decode cX5_tries 60 = .ok (.getfield 84, 3) := by decide +kernel
theorem dX5_tries_63 : decode cX5_tries 63 = .ok (.iload_n 1, 1) := by decide +kernel
theorem dX5_tries_64 : decode cX5_tries 64 = .ok (.aload_n 0, 1) := by decide +kernel
theorem dX5_tries_65 : decode cX5_tries 65 = .ok (.getfield 75, 3) := by decide +kernel
theorem dX5_tries_68 : decode cX5_tries 68 = .ok (.iload_n 1, 1) := by decide +kernel
theorem dX5_tries_69 : decode cX5_tries 69 = .ok (.iaload, 1) := by decide +kernel
theorem dX5_tries_70 : decode cX5_tries 70 = .ok (.iastore, 1) := by decide +kernel
theorem dX5_tries_71 : decode cX5_tries 71 = .ok (.iinc 1 1, 3) := by decide +kernel
theorem dX5_tries_74 : decode cX5_tries 74 = .ok (.goto (-23), 3) := by decide +kernel
theorem dX5_tries_77 : decode cX5_tries 77 = .ok (.iconst 0, 1) := by decide +kernel
theorem dX5_tries_78 : decode cX5_tries 78 = .ok (.istore_n 1, 1) := by decide +kernel
theorem dX5_tries_79 : decode cX5_tries 79 = .ok (.iload_n 1, 1) := by decide +kernel
theorem dX5_tries_80 : decode cX5_tries 80 = .ok (.aload_n 0, 1) := by decide +kernel
theorem dX5_tries_81 : decode cX5_tries 81 = .ok (.getfield 97, 3) := by decide +kernel
theorem dX5_tries_84 : decode cX5_tries 84 = .ok (.if_icmp .ge 41, 3) := by decide +kernel
theorem dX5_tries_87 : decode cX5_tries 87 = .ok (.aload_n 0, 1) := by decide +kernel
theorem dX5_tries_88 : decode cX5_tries 88 = .ok (.iload_n 1, 1) := by decide +kernel
theorem dX5_tries_89 : decode cX5_tries 89 = .ok (.invokevirtual 169, 3) := by decide +kernel
theorem dX5_tries_92 : decode cX5_tries 92 = .ok (.bipush 45, 2) := by decide +kernel
theorem dX5_tries_94 : decode cX5_tries 94 = .ok (.if_icmp .eq 6, 3) := by decide +kernel
theorem dX5_tries_97 : decode cX5_tries 97 = .ok (.goto 22, 3) := by decide +kernel
theorem dX5_tries_100 : decode cX5_tries 100 = .ok (.aload_n 0, 1) := by decide +kernel
theorem dX5_tries_101 : decode cX5_tries 101 = .ok (.iload_n 1, 1) := by decide +kernel
theorem dX5_tries_102 : decode cX5_tries 102 = .ok (.invokevirtual 173, 3) := by decide +kernel
theorem dX5_tries_105 : decode cX5_tries 105 = .ok (.aload_n 0, 1) := by decide +kernel
theorem dX5_tries_106 : decode cX5_tries 106 = .ok (.invokevirtual 209, 3) := by decide +kernel
theorem dX5_tries_109 : decode cX5_tries 109 = .ok (.aload_n 0, 1) := by decide +kernel
theorem dX5_tries_110 : decode cX5_tries 110 = .ok (.dup, 1) := by decide +kernel
theorem dX5_tries_111 : decode cX5_tries 111 = .ok (.getfield 100, 3) := by decide +kernel
theorem dX5_tries_114 : decode cX5_tries 114 = .ok (.iconst 1, 1) := by decide +kernel
theorem dX5_tries_115 : decode cX5_tries 115 = .ok (.isub, 1) := by decide +kernel
theorem dX5_tries_116 : decode cX5_tries 116 = .ok (.putfield 100, 3) := by decide +kernel
theorem dX5_tries_119 : decode cX5_tries 119 = .ok (.iinc 1 1, 3) := by decide +kernel
theorem dX5_tries_122 : decode cX5_tries 122 = .ok (.goto (-43), 3) := by decide +kernel
theorem dX5_tries_125 : decode cX5_tries 125 = .ok (.return_, 1) := by decide +kernel
theorem dX5_searches_0 : decode cX5_searches 0 = .ok (.aload_n 0, 1) := by decide +kernel
theorem dX5_searches_1 : decode cX5_searches 1 = .ok (.iconst 0, 1) := by decide +kernel
theorem dX5_searches_2 : decode cX5_searches 2 = .ok (.putfield 87, 3) := by decide +kernel
theorem dX5_searches_5 : decode cX5_searches 5 = .ok (.aload_n 0, 1) := by decide +kernel
theorem dX5_searches_6 : decode cX5_searches 6 = .ok (.iconst 0, 1) := by decide +kernel
theorem dX5_searches_7 : decode cX5_searches 7 = .ok (.putfield 187, 3) := by decide +kernel
theorem dX5_searches_10 : decode cX5_searches 10 = .ok (.aload_n 0, 1) := by decide +kernel
theorem dX5_searches_11 : decode cX5_searches 11 = .ok (.invokevirtual 209, 3) := by decide +kernel
theorem dX5_searches_14 : decode cX5_searches 14 = .ok (.return_, 1) := by decide +kernel
theorem dX5_bestOf_0 : decode cX5_bestOf 0 = .ok (.aload_n 0, 1) := by decide +kernel
theorem dX5_bestOf_1 : decode cX5_bestOf 1 = .ok (.invokevirtual 212, 3) := by decide +kernel
theorem dX5_bestOf_4 : decode cX5_bestOf 4 = .ok (.iload_n 1, 1) := by decide +kernel
theorem dX5_bestOf_5 : decode cX5_bestOf 5 = .ok (.ifCond .ne 10, 3) := by decide +kernel
theorem dX5_bestOf_8 : decode cX5_bestOf 8 = .ok (.aload_n 0, 1) := by decide +kernel
theorem dX5_bestOf_9 : decode cX5_bestOf 9 = .ok (.getfield 193, 3) := by decide +kernel
theorem dX5_bestOf_12 : decode cX5_bestOf 12 = .ok (.goto 43, 3) := by decide +kernel
theorem dX5_bestOf_15 : decode cX5_bestOf 15 = .ok (.iload_n 1, 1) := by decide +kernel
theorem dX5_bestOf_16 : decode cX5_bestOf 16 = .ok (.iconst 1, 1) := by decide +kernel
theorem dX5_bestOf_17 : decode cX5_bestOf 17 = .ok (.if_icmp .ne 10, 3) := by decide +kernel
theorem dX5_bestOf_20 : decode cX5_bestOf 20 = .ok (.aload_n 0, 1) := by decide +kernel
theorem dX5_bestOf_21 : decode cX5_bestOf 21 = .ok (.getfield 196, 3) := by decide +kernel
theorem dX5_bestOf_24 : decode cX5_bestOf 24 = .ok (.goto 31, 3) := by decide +kernel
theorem dX5_bestOf_27 : decode cX5_bestOf 27 = .ok (.iload_n 1, 1) := by decide +kernel
theorem dX5_bestOf_28 : decode cX5_bestOf 28 = .ok (.iconst 2, 1) := by decide +kernel
theorem dX5_bestOf_29 : decode cX5_bestOf 29 = .ok (.if_icmp .ne 10, 3) := by decide +kernel
theorem dX5_bestOf_32 : decode cX5_bestOf 32 = .ok (.aload_n 0, 1) := by decide +kernel
theorem dX5_bestOf_33 : decode cX5_bestOf 33 = .ok (.getfield 199, 3) := by decide +kernel
theorem dX5_bestOf_36 : decode cX5_bestOf 36 = .ok (.goto 19, 3) := by decide +kernel
theorem dX5_bestOf_39 : decode cX5_bestOf 39 = .ok (.iload_n 1, 1) := by decide +kernel
theorem dX5_bestOf_40 : decode cX5_bestOf 40 = .ok (.iconst 3, 1) := by decide +kernel
theorem dX5_bestOf_41 : decode cX5_bestOf 41 = .ok (.if_icmp .ne 10, 3) := by decide +kernel
theorem dX5_bestOf_44 : decode cX5_bestOf 44 = .ok (.aload_n 0, 1) := by decide +kernel
theorem dX5_bestOf_45 : decode cX5_bestOf 45 = .ok (.getfield 206, 3) := by decide +kernel
theorem dX5_bestOf_48 : decode cX5_bestOf 48 = .ok (.goto 7, 3) := by decide +kernel
theorem dX5_bestOf_51 : decode cX5_bestOf 51 = .ok (.aload_n 0, 1) := by decide +kernel
theorem dX5_bestOf_52 : decode cX5_bestOf 52 = .ok (.getfield 187, 3) := by decide +kernel
theorem dX5_bestOf_55 : decode cX5_bestOf 55 = .ok (.ireturn, 1) := by decide +kernel
theorem dX5_bestWorth_0 : decode cX5_bestWorth 0 = .ok (.aload_n 0, 1) := by decide +kernel
theorem dX5_bestWorth_1 : decode cX5_bestWorth 1 = .ok (.iconst 0, 1) := by decide +kernel
theorem dX5_bestWorth_2 : decode cX5_bestWorth 2 = .ok (.invokevirtual 215, 3) := by decide +kernel
theorem dX5_bestWorth_5 : decode cX5_bestWorth 5 = .ok (.ireturn, 1) := by decide +kernel
theorem dX5_bestByAll_0 : decode cX5_bestByAll 0 = .ok (.aload_n 0, 1) := by decide +kernel
theorem dX5_bestByAll_1 : decode cX5_bestByAll 1 = .ok (.iconst 0, 1) := by decide +kernel
theorem dX5_bestByAll_2 : decode cX5_bestByAll 2 = .ok (.invokevirtual 215, 3) := by decide +kernel
theorem dX5_bestByAll_5 : decode cX5_bestByAll 5 = .ok (.ireturn, 1) := by decide +kernel
theorem dX5_bestEnd_0 : decode cX5_bestEnd 0 = .ok (.aload_n 0, 1) := by decide +kernel
theorem dX5_bestEnd_1 : decode cX5_bestEnd 1 = .ok (.iconst 1, 1) := by decide +kernel
theorem dX5_bestEnd_2 : decode cX5_bestEnd 2 = .ok (.invokevirtual 215, 3) := by decide +kernel
theorem dX5_bestEnd_5 : decode cX5_bestEnd 5 = .ok (.ireturn, 1) := by decide +kernel
theorem dX5_bestCost_0 : decode cX5_bestCost 0 = .ok (.aload_n 0, 1) := by decide +kernel
theorem dX5_bestCost_1 : decode cX5_bestCost 1 = .ok (.iconst 2, 1) := by decide +kernel
theorem dX5_bestCost_2 : decode cX5_bestCost 2 = .ok (.invokevirtual 215, 3) := by decide +kernel
theorem dX5_bestCost_5 : decode cX5_bestCost 5 = .ok (.ireturn, 1) := by decide +kernel
theorem dX5_bestSize_0 : decode cX5_bestSize 0 = .ok (.aload_n 0, 1) := by decide +kernel
theorem dX5_bestSize_1 : decode cX5_bestSize 1 = .ok (.iconst 3, 1) := by decide +kernel
theorem dX5_bestSize_2 : decode cX5_bestSize 2 = .ok (.invokevirtual 215, 3) := by decide +kernel
theorem dX5_bestSize_5 : decode cX5_bestSize 5 = .ok (.ireturn, 1) := by decide +kernel
theorem dX5_bestAt_0 : decode cX5_bestAt 0 = .ok (.aload_n 0, 1) := by decide +kernel
theorem dX5_bestAt_1 : decode cX5_bestAt 1 = .ok (.invokevirtual 212, 3) := by decide +kernel
theorem dX5_bestAt_4 : decode cX5_bestAt 4 = .ok (.aload_n 0, 1) := by decide +kernel
theorem dX5_bestAt_5 : decode cX5_bestAt 5 = .ok (.iload_n 1, 1) := by decide +kernel
theorem dX5_bestAt_6 : decode cX5_bestAt 6 = .ok (.iconst 0, 1) := by decide +kernel
theorem dX5_bestAt_7 : decode cX5_bestAt 7 = .ok (.aload_n 0, 1) := by decide +kernel
theorem dX5_bestAt_8 : decode cX5_bestAt 8 = .ok (.getfield 206, 3) := by decide +kernel
theorem dX5_bestAt_11 : decode cX5_bestAt 11 = .ok (.iconst 1, 1) := by decide +kernel
theorem dX5_bestAt_12 : decode cX5_bestAt 12 = .ok (.isub, 1) := by decide +kernel
theorem dX5_bestAt_13 : decode cX5_bestAt 13 = .ok (.invokestatic 93, 3) := by decide +kernel
theorem dX5_bestAt_16 : decode cX5_bestAt 16 = .ok (.ifCond .eq 7, 3) := by decide +kernel
theorem dX5_bestAt_19 : decode cX5_bestAt 19 = .ok (.iconst 0, 1) := by decide +kernel
theorem dX5_bestAt_20 : decode cX5_bestAt 20 = .ok (.goto 4, 3) := by decide +kernel
theorem dX5_bestAt_23 : decode cX5_bestAt 23 = .ok (.iconst 1, 1) := by decide +kernel
theorem dX5_bestAt_24 : decode cX5_bestAt 24 = .ok (.invokevirtual 103, 3) := by decide +kernel
theorem dX5_bestAt_27 : decode cX5_bestAt 27 = .ok (.ifCond .eq 7, 3) := by decide +kernel
theorem dX5_bestAt_30 : decode cX5_bestAt 30 = .ok (.iconst 0, 1) := by decide +kernel
theorem dX5_bestAt_31 : decode cX5_bestAt 31 = .ok (.goto 9, 3) := by decide +kernel
theorem dX5_bestAt_34 : decode cX5_bestAt 34 = .ok (.aload_n 0, 1) := by decide +kernel
theorem dX5_bestAt_35 : decode cX5_bestAt 35 = .ok (.getfield 84, 3) := by decide +kernel
theorem dX5_bestAt_38 : decode cX5_bestAt 38 = .ok (.iload_n 1, 1) := by decide +kernel
theorem dX5_bestAt_39 : decode cX5_bestAt 39 = .ok (.iaload, 1) := by decide +kernel
theorem dX5_bestAt_40 : decode cX5_bestAt 40 = .ok (.ireturn, 1) := by decide +kernel
theorem dX5_complete_0 : decode cX5_complete 0 = .ok (.aload_n 0, 1) := by decide +kernel
theorem dX5_complete_1 : decode cX5_complete 1 = .ok (.invokevirtual 212, 3) := by decide +kernel
theorem dX5_complete_4 : decode cX5_complete 4 = .ok (.aload_n 0, 1) := by decide +kernel
theorem dX5_complete_5 : decode cX5_complete 5 = .ok (.getfield 100, 3) := by decide +kernel
theorem dX5_complete_8 : decode cX5_complete 8 = .ok (.istore_n 1, 1) := by decide +kernel
theorem dX5_complete_9 : decode cX5_complete 9 = .ok (.aload_n 0, 1) := by decide +kernel
theorem dX5_complete_10 : decode cX5_complete 10 = .ok (.getfield 100, 3) := by decide +kernel
theorem dX5_complete_13 : decode cX5_complete 13 = .ok (.aload_n 0, 1) := by decide +kernel
theorem dX5_complete_14 : decode cX5_complete 14 = .ok (.getfield 206, 3) := by decide +kernel
theorem dX5_complete_17 : decode cX5_complete 17 = .ok (.if_icmp .ge 19, 3) := by decide +kernel
theorem dX5_complete_20 : decode cX5_complete 20 = .ok (.aload_n 0, 1) := by decide +kernel
theorem dX5_complete_21 : decode cX5_complete 21 = .ok (.aload_n 0, 1) := by decide +kernel
theorem dX5_complete_22 : decode cX5_complete 22 = .ok (.getfield 84, 3) := by decide +kernel
theorem dX5_complete_25 : decode cX5_complete 25 = .ok (.aload_n 0, 1) := by decide +kernel
theorem dX5_complete_26 : decode cX5_complete 26 = .ok (.getfield 100, 3) := by decide +kernel
theorem dX5_complete_29 : decode cX5_complete 29 = .ok (.iaload, 1) := by decide +kernel
theorem dX5_complete_30 : decode cX5_complete 30 = .ok (.invokevirtual 173, 3) := by decide +kernel
theorem dX5_complete_33 : decode cX5_complete 33 = .ok (.goto (-24), 3) := by decide +kernel
theorem dX5_complete_36 : decode cX5_complete 36 = .ok (.aload_n 0, 1) := by decide +kernel
theorem dX5_complete_37 : decode cX5_complete 37 = .ok (.getfield 100, 3) := by decide +kernel
theorem dX5_complete_40 : decode cX5_complete 40 = .ok (.iload_n 1, 1) := by decide +kernel
theorem dX5_complete_41 : decode cX5_complete 41 = .ok (.isub, 1) := by decide +kernel
theorem dX5_complete_42 : decode cX5_complete 42 = .ok (.ireturn, 1) := by decide +kernel
theorem dX5_completions_0 : decode cX5_completions 0 = .ok (.aload_n 0, 1) := by decide +kernel
theorem dX5_completions_1 : decode cX5_completions 1 = .ok (.iconst 4, 1) := by decide +kernel
theorem dX5_completions_2 : decode cX5_completions 2 = .ok (.invokevirtual 215, 3) := by decide +kernel
theorem dX5_completions_5 : decode cX5_completions 5 = .ok (.ireturn, 1) := by decide +kernel
theorem dX5_tightest_0 : decode cX5_tightest 0 = .ok (.aload_n 0, 1) := by decide +kernel
theorem dX5_tightest_1 : decode cX5_tightest 1 = .ok (.aload_n 0, 1) := by decide +kernel
theorem dX5_tightest_2 : decode cX5_tightest 2 = .ok (.getfield 71, 3) := by decide +kernel
theorem dX5_tightest_5 : decode cX5_tightest 5 = .ok (.ifCond .ge 7, 3) := by decide +kernel
theorem dX5_tightest_8 : decode cX5_tightest 8 = .ok (.iconst 1, 1) := by decide +kernel
theorem dX5_tightest_9 : decode cX5_tightest 9 = .ok (.goto 15, 3) := by decide +kernel
theorem dX5_tightest_12 : decode cX5_tightest 12 = .ok (.aload_n 0, 1) := by decide +kernel
theorem dX5_tightest_13 : decode cX5_tightest 13 = .ok (.getfield 90, 3) := by decide +kernel
theorem dX5_tightest_16 : decode cX5_tightest 16 = .ok (.ifCond .ne 7, 3) := by decide +kernel
theorem dX5_tightest_19 : decode cX5_tightest 19 = .ok (.iconst 2, 1) := by decide +kernel
theorem dX5_tightest_20 : decode cX5_tightest 20 = .ok (.goto 4, 3) := by decide +kernel
theorem dX5_tightest_23 : decode cX5_tightest 23 = .ok (.iconst 0, 1) := by decide +kernel
theorem dX5_tightest_24 : decode cX5_tightest 24 = .ok (.invokevirtual 103, 3) := by decide +kernel
theorem dX5_tightest_27 : decode cX5_tightest 27 = .ok (.ifCond .eq 5, 3) := by decide +kernel
theorem dX5_tightest_30 : decode cX5_tightest 30 = .ok (.iconst 0, 1) := by decide +kernel
theorem dX5_tightest_31 : decode cX5_tightest 31 = .ok (.ireturn, 1) := by decide +kernel
theorem dX5_tightest_32 : decode cX5_tightest 32 = .ok (.iconst 0, 1) := by decide +kernel
theorem dX5_tightest_33 : decode cX5_tightest 33 = .ok (.istore_n 1, 1) := by decide +kernel
theorem dX5_tightest_34 : decode cX5_tightest 34 = .ok (.iconst 1, 1) := by decide +kernel
theorem dX5_tightest_35 : decode cX5_tightest 35 = .ok (.istore_n 2, 1) := by decide +kernel
theorem dX5_tightest_36 : decode cX5_tightest 36 = .ok (.iload_n 2, 1) := by decide +kernel
theorem dX5_tightest_37 : decode cX5_tightest 37 = .ok (.aload_n 0, 1) := by decide +kernel
theorem dX5_tightest_38 : decode cX5_tightest 38 = .ok (.getfield 90, 3) := by decide +kernel
theorem dX5_tightest_41 : decode cX5_tightest 41 = .ok (.if_icmp .ge 36, 3) := by decide +kernel
theorem dX5_tightest_44 : decode cX5_tightest 44 = .ok (.aload_n 0, 1) := by decide +kernel
theorem dX5_tightest_45 : decode cX5_tightest 45 = .ok (.iload_n 2, 1) := by decide +kernel
theorem dX5_tightest_46 : decode cX5_tightest 46 = .ok (.invokevirtual 141, 3) := by decide +kernel
theorem dX5_tightest_49 : decode cX5_tightest 49 = .ok (.aload_n 0, 1) := by decide +kernel
theorem dX5_tightest_50 : decode cX5_tightest 50 = .ok (.iload_n 2, 1) := by decide +kernel
theorem dX5_tightest_51 : decode cX5_tightest 51 = .ok (.invokevirtual 144, 3) := by decide +kernel
theorem dX5_tightest_54 : decode cX5_tightest 54 = .ok (.isub, 1) := by decide +kernel
theorem dX5_tightest_55 : decode cX5_tightest 55 = .ok (.aload_n 0, 1) := by decide +kernel
theorem dX5_tightest_56 : decode cX5_tightest 56 = .ok (.iload_n 1, 1) := by decide +kernel
theorem dX5_tightest_57 : decode cX5_tightest 57 = .ok (.invokevirtual 141, 3) := by decide +kernel
theorem dX5_tightest_60 : decode cX5_tightest 60 = .ok (.aload_n 0, 1) := by decide +kernel
theorem dX5_tightest_61 : decode cX5_tightest 61 = .ok (.iload_n 1, 1) := by decide +kernel
theorem dX5_tightest_62 : decode cX5_tightest 62 = .ok (.invokevirtual 144, 3) := by decide +kernel
theorem dX5_tightest_65 : decode cX5_tightest 65 = .ok (.isub, 1) := by decide +kernel
theorem dX5_tightest_66 : decode cX5_tightest 66 = .ok (.if_icmp .ge 5, 3) := by decide +kernel
theorem dX5_tightest_69 : decode cX5_tightest 69 = .ok (.iload_n 2, 1) := by decide +kernel
theorem dX5_tightest_70 : decode cX5_tightest 70 = .ok (.istore_n 1, 1) := by decide +kernel
theorem dX5_tightest_71 : decode cX5_tightest 71 = .ok (.iinc 2 1, 3) := by decide +kernel
theorem dX5_tightest_74 : decode cX5_tightest 74 = .ok (.goto (-38), 3) := by decide +kernel
theorem dX5_tightest_77 : decode cX5_tightest 77 = .ok (.iload_n 1, 1) := by decide +kernel
theorem dX5_tightest_78 : decode cX5_tightest 78 = .ok (.ireturn, 1) := by decide +kernel
theorem dX5_hungShare_0 : decode cX5_hungShare 0 = .ok (.aload_n 0, 1) := by decide +kernel
theorem dX5_hungShare_1 : decode cX5_hungShare 1 = .ok (.aload_n 0, 1) := by decide +kernel
theorem dX5_hungShare_2 : decode cX5_hungShare 2 = .ok (.getfield 97, 3) := by decide +kernel
theorem dX5_hungShare_5 : decode cX5_hungShare 5 = .ok (.ifCond .ne 7, 3) := by decide +kernel
theorem dX5_hungShare_8 : decode cX5_hungShare 8 = .ok (.iconst 1, 1) := by decide +kernel
theorem dX5_hungShare_9 : decode cX5_hungShare 9 = .ok (.goto 4, 3) := by decide +kernel
theorem dX5_hungShare_12 : decode cX5_hungShare 12 = .ok (.iconst 0, 1) := by decide +kernel
theorem dX5_hungShare_13 : decode cX5_hungShare 13 = .ok (.invokevirtual 103, 3) := by decide +kernel
theorem dX5_hungShare_16 : decode cX5_hungShare 16 = .ok (.ifCond .eq 7, 3) := by decide +kernel
theorem dX5_hungShare_19 : decode cX5_hungShare 19 = .ok (.fconst 0, 1) := by decide +kernel
theorem dX5_hungShare_20 : decode cX5_hungShare 20 = .ok (.goto 14, 3) := by decide +kernel
theorem dX5_hungShare_23 : decode cX5_hungShare 23 = .ok (.aload_n 0, 1) := by decide +kernel
theorem dX5_hungShare_24 : decode cX5_hungShare 24 = .ok (.getfield 100, 3) := by decide +kernel
theorem dX5_hungShare_27 : decode cX5_hungShare 27 = .ok (.i2f, 1) := by decide +kernel
theorem dX5_hungShare_28 : decode cX5_hungShare 28 = .ok (.aload_n 0, 1) := by decide +kernel
theorem dX5_hungShare_29 : decode cX5_hungShare 29 = .ok (.getfield 97, 3) := by decide +kernel
theorem dX5_hungShare_32 : decode cX5_hungShare 32 = .ok (.i2f, 1) := by decide +kernel
theorem dX5_hungShare_33 : decode cX5_hungShare 33 = .ok (.fdiv, 1) := by decide +kernel
theorem dX5_hungShare_34 : decode cX5_hungShare 34 = .ok (.freturn, 1) := by decide +kernel
theorem dX5_meanLoad_0 : decode cX5_meanLoad 0 = .ok (.aload_n 0, 1) := by decide +kernel
theorem dX5_meanLoad_1 : decode cX5_meanLoad 1 = .ok (.aload_n 0, 1) := by decide +kernel
theorem dX5_meanLoad_2 : decode cX5_meanLoad 2 = .ok (.getfield 90, 3) := by decide +kernel
theorem dX5_meanLoad_5 : decode cX5_meanLoad 5 = .ok (.ifCond .ne 7, 3) := by decide +kernel
theorem dX5_meanLoad_8 : decode cX5_meanLoad 8 = .ok (.iconst 1, 1) := by decide +kernel
theorem dX5_meanLoad_9 : decode cX5_meanLoad 9 = .ok (.goto 4, 3) := by decide +kernel
theorem dX5_meanLoad_12 : decode cX5_meanLoad 12 = .ok (.iconst 0, 1) := by decide +kernel
theorem dX5_meanLoad_13 : decode cX5_meanLoad 13 = .ok (.invokevirtual 103, 3) := by decide +kernel
theorem dX5_meanLoad_16 : decode cX5_meanLoad 16 = .ok (.ifCond .eq 5, 3) := by decide +kernel
theorem dX5_meanLoad_19 : decode cX5_meanLoad 19 = .ok (.dconst 0, 1) := by decide +kernel
theorem dX5_meanLoad_20 : decode cX5_meanLoad 20 = .ok (.dreturn, 1) := by decide +kernel
theorem dX5_meanLoad_21 : decode cX5_meanLoad 21 = .ok (.iconst 0, 1) := by decide +kernel
theorem dX5_meanLoad_22 : decode cX5_meanLoad 22 = .ok (.istore_n 1, 1) := by decide +kernel
theorem dX5_meanLoad_23 : decode cX5_meanLoad 23 = .ok (.iconst 0, 1) := by decide +kernel
theorem dX5_meanLoad_24 : decode cX5_meanLoad 24 = .ok (.istore_n 2, 1) := by decide +kernel
theorem dX5_meanLoad_25 : decode cX5_meanLoad 25 = .ok (.iload_n 2, 1) := by decide +kernel
theorem dX5_meanLoad_26 : decode cX5_meanLoad 26 = .ok (.aload_n 0, 1) := by decide +kernel
theorem dX5_meanLoad_27 : decode cX5_meanLoad 27 = .ok (.getfield 90, 3) := by decide +kernel
theorem dX5_meanLoad_30 : decode cX5_meanLoad 30 = .ok (.if_icmp .ge 17, 3) := by decide +kernel
theorem dX5_meanLoad_33 : decode cX5_meanLoad 33 = .ok (.iload_n 1, 1) := by decide +kernel
theorem dX5_meanLoad_34 : decode cX5_meanLoad 34 = .ok (.aload_n 0, 1) := by decide +kernel
theorem dX5_meanLoad_35 : decode cX5_meanLoad 35 = .ok (.iload_n 2, 1) := by decide +kernel
theorem dX5_meanLoad_36 : decode cX5_meanLoad 36 = .ok (.invokevirtual 144, 3) := by decide +kernel
theorem dX5_meanLoad_39 : decode cX5_meanLoad 39 = .ok (.iadd, 1) := by decide +kernel
theorem dX5_meanLoad_40 : decode cX5_meanLoad 40 = .ok (.istore_n 1, 1) := by decide +kernel
theorem dX5_meanLoad_41 : decode cX5_meanLoad 41 = .ok (.iinc 2 1, 3) := by decide +kernel
theorem dX5_meanLoad_44 : decode cX5_meanLoad 44 = .ok (.goto (-19), 3) := by decide +kernel
theorem dX5_meanLoad_47 : decode cX5_meanLoad 47 = .ok (.iload_n 1, 1) := by decide +kernel
theorem dX5_meanLoad_48 : decode cX5_meanLoad 48 = .ok (.i2d, 1) := by decide +kernel
theorem dX5_meanLoad_49 : decode cX5_meanLoad 49 = .ok (.aload_n 0, 1) := by decide +kernel
theorem dX5_meanLoad_50 : decode cX5_meanLoad 50 = .ok (.getfield 90, 3) := by decide +kernel
theorem dX5_meanLoad_53 : decode cX5_meanLoad 53 = .ok (.i2d, 1) := by decide +kernel
theorem dX5_meanLoad_54 : decode cX5_meanLoad 54 = .ok (.ddiv, 1) := by decide +kernel
theorem dX5_meanLoad_55 : decode cX5_meanLoad 55 = .ok (.dreturn, 1) := by decide +kernel
theorem dX5_isSound_0 : decode cX5_isSound 0 = .ok (.aload_n 0, 1) := by decide +kernel
theorem dX5_isSound_1 : decode cX5_isSound 1 = .ok (.iconst 0, 1) := by decide +kernel
theorem dX5_isSound_2 : decode cX5_isSound 2 = .ok (.putfield 87, 3) := by decide +kernel
theorem dX5_isSound_5 : decode cX5_isSound 5 = .ok (.iconst 0, 1) := by decide +kernel
theorem dX5_isSound_6 : decode cX5_isSound 6 = .ok (.istore_n 1, 1) := by decide +kernel
theorem dX5_isSound_7 : decode cX5_isSound 7 = .ok (.aload_n 0, 1) := by decide +kernel
theorem dX5_isSound_8 : decode cX5_isSound 8 = .ok (.getfield 71, 3) := by decide +kernel
theorem dX5_isSound_11 : decode cX5_isSound 11 = .ok (.ifCond .lt 32, 3) := by decide +kernel
theorem dX5_isSound_14 : decode cX5_isSound 14 = .ok (.iload_n 1, 1) := by decide +kernel
theorem dX5_isSound_15 : decode cX5_isSound 15 = .ok (.aload_n 0, 1) := by decide +kernel
theorem dX5_isSound_16 : decode cX5_isSound 16 = .ok (.getfield 90, 3) := by decide +kernel
theorem dX5_isSound_19 : decode cX5_isSound 19 = .ok (.if_icmp .ge 24, 3) := by decide +kernel
theorem dX5_isSound_22 : decode cX5_isSound 22 = .ok (.aload_n 0, 1) := by decide +kernel
theorem dX5_isSound_23 : decode cX5_isSound 23 = .ok (.iload_n 1, 1) := by decide +kernel
theorem dX5_isSound_24 : decode cX5_isSound 24 = .ok (.invokevirtual 144, 3) := by decide +kernel
theorem dX5_isSound_27 : decode cX5_isSound 27 = .ok (.aload_n 0, 1) := by decide +kernel
theorem dX5_isSound_28 : decode cX5_isSound 28 = .ok (.iload_n 1, 1) := by decide +kernel
theorem dX5_isSound_29 : decode cX5_isSound 29 = .ok (.invokevirtual 141, 3) := by decide +kernel
theorem dX5_isSound_32 : decode cX5_isSound 32 = .ok (.if_icmp .le 5, 3) := by decide +kernel
theorem dX5_isSound_35 : decode cX5_isSound 35 = .ok (.iconst 0, 1) := by decide +kernel
theorem dX5_isSound_36 : decode cX5_isSound 36 = .ok (.ireturn, 1) := by decide +kernel
theorem dX5_isSound_37 : decode cX5_isSound 37 = .ok (.iinc 1 1, 3) := by decide +kernel
theorem dX5_isSound_40 : decode cX5_isSound 40 = .ok (.goto (-33), 3) := by decide +kernel
theorem dX5_isSound_43 : decode cX5_isSound 43 = .ok (.iconst 1, 1) := by decide +kernel
theorem dX5_isSound_44 : decode cX5_isSound 44 = .ok (.ireturn, 1) := by decide +kernel
theorem dJx00060_init_a7421_0 : decode cJx00060_init_a7421 0 = .ok (.aload_n 0, 1) := by decide +kernel
theorem dJx00060_init_a7421_1 : decode cJx00060_init_a7421 1 = .ok (.aload_n 1, 1) := by decide +kernel
theorem dJx00060_init_a7421_2 : decode cJx00060_init_a7421 2 = .ok (.invokespecial 7, 3) := by decide +kernel
theorem dJx00060_init_a7421_5 : decode cJx00060_init_a7421 5 = .ok (.return_, 1) := by decide +kernel
theorem dJ6_bitCount_0f7a4_0 : decode cJ6_bitCount_0f7a4 0 = .ok (.iload_n 0, 1) := by decide +kernel
theorem dJ6_bitCount_0f7a4_1 : decode cJ6_bitCount_0f7a4 1 = .ok (.iload_n 0, 1) := by decide +kernel
theorem dJ6_bitCount_0f7a4_2 : decode cJ6_bitCount_0f7a4 2 = .ok (.iconst 1, 1) := by decide +kernel
theorem dJ6_bitCount_0f7a4_3 : decode cJ6_bitCount_0f7a4 3 = .ok (.iushr, 1) := by decide +kernel
theorem dJ6_bitCount_0f7a4_4 : decode cJ6_bitCount_0f7a4 4 = .ok (.ldc_w 265, 3) := by decide +kernel
theorem dJ6_bitCount_0f7a4_7 : decode cJ6_bitCount_0f7a4 7 = .ok (.iand, 1) := by decide +kernel
theorem dJ6_bitCount_0f7a4_8 : decode cJ6_bitCount_0f7a4 8 = .ok (.isub, 1) := by decide +kernel
theorem dJ6_bitCount_0f7a4_9 : decode cJ6_bitCount_0f7a4 9 = .ok (.istore_n 0, 1) := by decide +kernel
theorem dJ6_bitCount_0f7a4_10 : decode cJ6_bitCount_0f7a4 10 = .ok (.iload_n 0, 1) := by decide +kernel
theorem dJ6_bitCount_0f7a4_11 : decode cJ6_bitCount_0f7a4 11 = .ok (.ldc_w 266, 3) := by decide +kernel
theorem dJ6_bitCount_0f7a4_14 : decode cJ6_bitCount_0f7a4 14 = .ok (.iand, 1) := by decide +kernel
theorem dJ6_bitCount_0f7a4_15 : decode cJ6_bitCount_0f7a4 15 = .ok (.iload_n 0, 1) := by decide +kernel
theorem dJ6_bitCount_0f7a4_16 : decode cJ6_bitCount_0f7a4 16 = .ok (.iconst 2, 1) := by decide +kernel
theorem dJ6_bitCount_0f7a4_17 : decode cJ6_bitCount_0f7a4 17 = .ok (.iushr, 1) := by decide +kernel
theorem dJ6_bitCount_0f7a4_18 : decode cJ6_bitCount_0f7a4 18 = .ok (.ldc_w 266, 3) := by decide +kernel
theorem dJ6_bitCount_0f7a4_21 : decode cJ6_bitCount_0f7a4 21 = .ok (.iand, 1) := by decide +kernel
theorem dJ6_bitCount_0f7a4_22 : decode cJ6_bitCount_0f7a4 22 = .ok (.iadd, 1) := by decide +kernel
theorem dJ6_bitCount_0f7a4_23 : decode cJ6_bitCount_0f7a4 23 = .ok (.istore_n 0, 1) := by decide +kernel
theorem dJ6_bitCount_0f7a4_24 : decode cJ6_bitCount_0f7a4 24 = .ok (.iload_n 0, 1) := by decide +kernel
theorem dJ6_bitCount_0f7a4_25 : decode cJ6_bitCount_0f7a4 25 = .ok (.iload_n 0, 1) := by decide +kernel
theorem dJ6_bitCount_0f7a4_26 : decode cJ6_bitCount_0f7a4 26 = .ok (.iconst 4, 1) := by decide +kernel
theorem dJ6_bitCount_0f7a4_27 : decode cJ6_bitCount_0f7a4 27 = .ok (.iushr, 1) := by decide +kernel
theorem dJ6_bitCount_0f7a4_28 : decode cJ6_bitCount_0f7a4 28 = .ok (.iadd, 1) := by decide +kernel
theorem dJ6_bitCount_0f7a4_29 : decode cJ6_bitCount_0f7a4 29 = .ok (.ldc_w 267, 3) := by decide +kernel
theorem dJ6_bitCount_0f7a4_32 : decode cJ6_bitCount_0f7a4 32 = .ok (.iand, 1) := by decide +kernel
theorem dJ6_bitCount_0f7a4_33 : decode cJ6_bitCount_0f7a4 33 = .ok (.istore_n 0, 1) := by decide +kernel
theorem dJ6_bitCount_0f7a4_34 : decode cJ6_bitCount_0f7a4 34 = .ok (.iload_n 0, 1) := by decide +kernel
theorem dJ6_bitCount_0f7a4_35 : decode cJ6_bitCount_0f7a4 35 = .ok (.iload_n 0, 1) := by decide +kernel
theorem dJ6_bitCount_0f7a4_36 : decode cJ6_bitCount_0f7a4 36 = .ok (.bipush 8, 2) := by decide +kernel
theorem dJ6_bitCount_0f7a4_38 : decode cJ6_bitCount_0f7a4 38 = .ok (.iushr, 1) := by decide +kernel
theorem dJ6_bitCount_0f7a4_39 : decode cJ6_bitCount_0f7a4 39 = .ok (.iadd, 1) := by decide +kernel
theorem dJ6_bitCount_0f7a4_40 : decode cJ6_bitCount_0f7a4 40 = .ok (.istore_n 0, 1) := by decide +kernel
theorem dJ6_bitCount_0f7a4_41 : decode cJ6_bitCount_0f7a4 41 = .ok (.iload_n 0, 1) := by decide +kernel
theorem dJ6_bitCount_0f7a4_42 : decode cJ6_bitCount_0f7a4 42 = .ok (.iload_n 0, 1) := by decide +kernel
theorem dJ6_bitCount_0f7a4_43 : decode cJ6_bitCount_0f7a4 43 = .ok (.bipush 16, 2) := by decide +kernel
theorem dJ6_bitCount_0f7a4_45 : decode cJ6_bitCount_0f7a4 45 = .ok (.iushr, 1) := by decide +kernel
theorem dJ6_bitCount_0f7a4_46 : decode cJ6_bitCount_0f7a4 46 = .ok (.iadd, 1) := by decide +kernel
theorem dJ6_bitCount_0f7a4_47 : decode cJ6_bitCount_0f7a4 47 = .ok (.istore_n 0, 1) := by decide +kernel
theorem dJ6_bitCount_0f7a4_48 : decode cJ6_bitCount_0f7a4 48 = .ok (.iload_n 0, 1) := by decide +kernel
theorem dJ6_bitCount_0f7a4_49 : decode cJ6_bitCount_0f7a4 49 = .ok (.bipush 63, 2) := by decide +kernel
theorem dJ6_bitCount_0f7a4_51 : decode cJ6_bitCount_0f7a4 51 = .ok (.iand, 1) := by decide +kernel
theorem dJ6_bitCount_0f7a4_52 : decode cJ6_bitCount_0f7a4 52 = .ok (.ireturn, 1) := by decide +kernel
theorem dJ9_max_7cf53_0 : decode cJ9_max_7cf53 0 = .ok (.iload_n 0, 1) := by decide +kernel
theorem dJ9_max_7cf53_1 : decode cJ9_max_7cf53 1 = .ok (.iload_n 1, 1) := by decide +kernel
theorem dJ9_max_7cf53_2 : decode cJ9_max_7cf53 2 = .ok (.if_icmp .lt 7, 3) := by decide +kernel
theorem dJ9_max_7cf53_5 : decode cJ9_max_7cf53 5 = .ok (.iload_n 0, 1) := by decide +kernel
theorem dJ9_max_7cf53_6 : decode cJ9_max_7cf53 6 = .ok (.goto 4, 3) := by decide +kernel
theorem dJ9_max_7cf53_9 : decode cJ9_max_7cf53 9 = .ok (.iload_n 1, 1) := by decide +kernel
theorem dJ9_max_7cf53_10 : decode cJ9_max_7cf53 10 = .ok (.ireturn, 1) := by decide +kernel
theorem dJ9_min_7cf53_0 : decode cJ9_min_7cf53 0 = .ok (.iload_n 0, 1) := by decide +kernel
theorem dJ9_min_7cf53_1 : decode cJ9_min_7cf53 1 = .ok (.iload_n 1, 1) := by decide +kernel
theorem dJ9_min_7cf53_2 : decode cJ9_min_7cf53 2 = .ok (.if_icmp .gt 7, 3) := by decide +kernel
theorem dJ9_min_7cf53_5 : decode cJ9_min_7cf53 5 = .ok (.iload_n 0, 1) := by decide +kernel
theorem dJ9_min_7cf53_6 : decode cJ9_min_7cf53 6 = .ok (.goto 4, 3) := by decide +kernel
theorem dJ9_min_7cf53_9 : decode cJ9_min_7cf53 9 = .ok (.iload_n 1, 1) := by decide +kernel
theorem dJ9_min_7cf53_10 : decode cJ9_min_7cf53 10 = .ok (.ireturn, 1) := by decide +kernel
abbrev vwCl : List vw_C := [(RJ0, TJ0, 2), (RJx00060, TJx00060, 6), (RX0, TX0, 9), (RX1, TX1, 2), (RX2, TX2, 8), (RX3, TX3, 8), (RX4, TX4, 13), (RX5, TX5, 35)]

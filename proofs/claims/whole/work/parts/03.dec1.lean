theorem dX5_drop_7 : decode cX5_drop 7 = .ok (.putfield 19, 3) := by decide +kernel
theorem dX5_drop_10 : decode cX5_drop 10 = .ok (.return_, 1) := by decide +kernel
theorem dX5_hasNothing_0 : decode cX5_hasNothing 0 = .ok (.aload_n 0, 1) := by decide +kernel
theorem dX5_hasNothing_1 : decode cX5_hasNothing 1 = .ok (.getfield 15, 3) := by decide +kernel
theorem dX5_hasNothing_4 : decode cX5_hasNothing 4 = .ok (.iconst (-1), 1) := by decide +kernel
theorem dX5_hasNothing_5 : decode cX5_hasNothing 5 = .ok (.if_icmp .ne 7, 3) := by decide +kernel
theorem dX5_hasNothing_8 : decode cX5_hasNothing 8 = .ok (.iconst 1, 1) := by decide +kernel
theorem dX5_hasNothing_9 : decode cX5_hasNothing 9 = .ok (.goto 4, 3) := by decide +kernel
theorem dX5_hasNothing_12 : decode cX5_hasNothing 12 = .ok (.iconst 0, 1) := by decide +kernel
theorem dX5_hasNothing_13 : decode cX5_hasNothing 13 = .ok (.ireturn, 1) := by decide +kernel
theorem dX5_isOfOtherLane_0 : decode cX5_isOfOtherLane 0 = .ok (.aload_n 0, 1) := by decide +kernel
theorem dX5_isOfOtherLane_1 : decode cX5_isOfOtherLane 1 = .ok (.getfield 15, 3) := by decide +kernel
theorem dX5_isOfOtherLane_4 : decode cX5_isOfOtherLane 4 = .ok (.iconst (-1), 1) := by decide +kernel
theorem dX5_isOfOtherLane_5 : decode cX5_isOfOtherLane 5 = .ok (.if_icmp .eq 15, 3) := by decide +kernel
theorem dX5_isOfOtherLane_8 : decode cX5_isOfOtherLane 8 = .ok (.aload_n 0, 1) := by decide +kernel
theorem dX5_isOfOtherLane_9 : decode cX5_isOfOtherLane 9 = .ok (.getfield 15, 3) := by decide +kernel
theorem dX5_isOfOtherLane_12 : decode cX5_isOfOtherLane 12 = .ok (.iload_n 1, 1) := by decide +kernel
theorem dX5_isOfOtherLane_13 : decode cX5_isOfOtherLane 13 = .ok (.if_icmp .eq 7, 3) := by decide +kernel
theorem dX5_isOfOtherLane_16 : decode cX5_isOfOtherLane 16 = .ok (.iconst 1, 1) := by decide +kernel
theorem dX5_isOfOtherLane_17 : decode cX5_isOfOtherLane 17 = .ok (.goto 4, 3) := by decide +kernel
theorem dX5_isOfOtherLane_20 : decode cX5_isOfOtherLane 20 = .ok (.iconst 0, 1) := by decide +kernel
theorem dX5_isOfOtherLane_21 : decode cX5_isOfOtherLane 21 = .ok (.ireturn, 1) := by decide +kernel
theorem dX5_holds_0 : decode cX5_holds 0 = .ok (.iload_n 1, 1) := by decide +kernel
theorem dX5_holds_1 : decode cX5_holds 1 = .ok (.ifCond .lt 15, 3) := by decide +kernel
theorem dX5_holds_4 : decode cX5_holds 4 = .ok (.iload_n 1, 1) := by decide +kernel
theorem dX5_holds_5 : decode cX5_holds 5 = .ok (.aload_n 0, 1) := by decide +kernel
theorem dX5_holds_6 : decode cX5_holds 6 = .ok (.getfield 19, 3) := by decide +kernel
theorem dX5_holds_9 : decode cX5_holds 9 = .ok (.if_icmp .ge 7, 3) := by decide +kernel
theorem dX5_holds_12 : decode cX5_holds 12 = .ok (.iconst 1, 1) := by decide +kernel
theorem dX5_holds_13 : decode cX5_holds 13 = .ok (.goto 4, 3) := by decide +kernel
theorem dX5_holds_16 : decode cX5_holds 16 = .ok (.iconst 0, 1) := by decide +kernel
theorem dX5_holds_17 : decode cX5_holds 17 = .ok (.ireturn, 1) := by decide +kernel
theorem dX5_holdsRun_0 : decode cX5_holdsRun 0 = .ok (.iload_n 1, 1) := by decide +kernel
theorem dX5_holdsRun_1 : decode cX5_holdsRun 1 = .ok (.ifCond .lt 29, 3) := by decide +kernel
theorem dX5_holdsRun_4 : decode cX5_holdsRun 4 = .ok (.iload_n 1, 1) := by decide +kernel
theorem dX5_holdsRun_5 : decode cX5_holdsRun 5 = .ok (.aload_n 0, 1) := by decide +kernel
theorem dX5_holdsRun_6 : decode cX5_holdsRun 6 = .ok (.getfield 19, 3) := by decide +kernel
theorem dX5_holdsRun_9 : decode cX5_holdsRun 9 = .ok (.if_icmp .gt 21, 3) := by decide +kernel
theorem dX5_holdsRun_12 : decode cX5_holdsRun 12 = .ok (.iload_n 2, 1) := by decide +kernel
theorem dX5_holdsRun_13 : decode cX5_holdsRun 13 = .ok (.ifCond .lt 17, 3) := by decide +kernel
theorem dX5_holdsRun_16 : decode cX5_holdsRun 16 = .ok (.iload_n 2, 1) := by decide +kernel
theorem dX5_holdsRun_17 : decode cX5_holdsRun 17 = .ok (.aload_n 0, 1) := by decide +kernel
theorem dX5_holdsRun_18 : decode cX5_holdsRun 18 = .ok (.getfield 19, 3) := by decide +kernel
theorem dX5_holdsRun_21 : decode cX5_holdsRun 21 = .ok (.iload_n 1, 1) := by decide +kernel
theorem dX5_holdsRun_22 : decode cX5_holdsRun 22 = .ok (.isub, 1) := by decide +kernel
theorem dX5_holdsRun_23 : decode cX5_holdsRun 23 = .ok (.if_icmp .gt 7, 3) := by decide +kernel
theorem dX5_holdsRun_26 : decode cX5_holdsRun 26 = .ok (.iconst 1, 1) := by decide +kernel
theorem dX5_holdsRun_27 : decode cX5_holdsRun 27 = .ok (.goto 4, 3) := by decide +kernel
theorem dX5_holdsRun_30 : decode cX5_holdsRun 30 = .ok (.iconst 0, 1) := by decide +kernel
theorem dX5_holdsRun_31 : decode cX5_holdsRun 31 = .ok (.ireturn, 1) := by decide +kernel
theorem dX5_write_0 : decode cX5_write 0 = .ok (.aload_n 0, 1) := by decide +kernel
theorem dX5_write_1 : decode cX5_write 1 = .ok (.getfield 9, 3) := by decide +kernel
theorem dX5_write_4 : decode cX5_write 4 = .ok (.iload_n 1, 1) := by decide +kernel
theorem dX5_write_5 : decode cX5_write 5 = .ok (.aload_n 0, 1) := by decide +kernel
theorem dX5_write_6 : decode cX5_write 6 = .ok (.getfield 15, 3) := by decide +kernel
theorem dX5_write_9 : decode cX5_write 9 = .ok (.ifCond .ne 8, 3) := by decide +kernel
theorem dX5_write_12 : decode cX5_write 12 = .ok (.iload_n 2, 1) := by decide +kernel
theorem dX5_write_13 : decode cX5_write 13 = .ok (.i2b, 1) := by decide +kernel
theorem dX5_write_14 : decode cX5_write 14 = .ok (.goto 17, 3) := by decide +kernel
theorem dX5_write_17 : decode cX5_write 17 = .ok (.aload_n 0, 1) := by decide +kernel
theorem dX5_write_18 : decode cX5_write 18 = .ok (.getfield 15, 3) := by decide +kernel
theorem dX5_write_21 : decode cX5_write 21 = .ok (.iconst 1, 1) := by decide +kernel
theorem dX5_write_22 : decode cX5_write 22 = .ok (.if_icmp .ne 8, 3) := by decide +kernel
theorem dX5_write_25 : decode cX5_write 25 = .ok (.iload_n 2, 1) := by decide +kernel
theorem dX5_write_26 : decode cX5_write 26 = .ok (.i2s, 1) := by decide +kernel
theorem dX5_write_27 : decode cX5_write 27 = .ok (.goto 4, 3) := by decide +kernel
theorem dX5_write_30 : decode cX5_write 30 = .ok (.iload_n 2, 1) := by decide +kernel
theorem dX5_write_31 : decode cX5_write 31 = .ok (.iastore, 1) := by decide +kernel
theorem dX5_write_32 : decode cX5_write 32 = .ok (.return_, 1) := by decide +kernel
theorem dX6_firstFault_0 : decode cX6_firstFault 0 = .ok (.iconst 0, 1) := by decide +kernel
theorem dX6_firstFault_1 : decode cX6_firstFault 1 = .ok (.istore_n 3, 1) := by decide +kernel
theorem dX6_firstFault_2 : decode cX6_firstFault 2 = .ok (.iload_n 3, 1) := by decide +kernel
theorem dX6_firstFault_3 : decode cX6_firstFault 3 = .ok (.iload_n 2, 1) := by decide +kernel
theorem dX6_firstFault_4 : decode cX6_firstFault 4 = .ok (.if_icmp .ge 26, 3) := by decide +kernel
theorem dX6_firstFault_7 : decode cX6_firstFault 7 = .ok (.iload_n 3, 1) := by decide +kernel
theorem dX6_firstFault_8 : decode cX6_firstFault 8 = .ok (.aload_n 0, 1) := by decide +kernel
theorem dX6_firstFault_9 : decode cX6_firstFault 9 = .ok (.getfield 9, 3) := by decide +kernel
theorem dX6_firstFault_12 : decode cX6_firstFault 12 = .ok (.iload_n 1, 1) := by decide +kernel
theorem dX6_firstFault_13 : decode cX6_firstFault 13 = .ok (.iload_n 3, 1) := by decide +kernel
theorem dX6_firstFault_14 : decode cX6_firstFault 14 = .ok (.iadd, 1) := by decide +kernel
theorem dX6_firstFault_15 : decode cX6_firstFault 15 = .ok (.iaload, 1) := by decide +kernel
theorem dX6_firstFault_16 : decode cX6_firstFault 16 = .ok (.invokestatic 15, 3) := by decide +kernel
theorem dX6_firstFault_19 : decode cX6_firstFault 19 = .ok (.ifCond .ne 5, 3) := by decide +kernel
theorem dX6_firstFault_22 : decode cX6_firstFault 22 = .ok (.iload_n 3, 1) := by decide +kernel
theorem dX6_firstFault_23 : decode cX6_firstFault 23 = .ok (.ireturn, 1) := by decide +kernel
theorem dX6_firstFault_24 : decode cX6_firstFault 24 = .ok (.iinc 3 1, 3) := by decide +kernel
theorem dX6_firstFault_27 : decode cX6_firstFault 27 = .ok (.goto (-25), 3) := by decide +kernel
theorem dX6_firstFault_30 : decode cX6_firstFault 30 = .ok (.iload_n 2, 1) := by decide +kernel
theorem dX6_firstFault_31 : decode cX6_firstFault 31 = .ok (.invokestatic 21, 3) := by decide +kernel
theorem dX6_firstFault_34 : decode cX6_firstFault 34 = .ok (.ifCond .eq 7, 3) := by decide +kernel
theorem dX6_firstFault_37 : decode cX6_firstFault 37 = .ok (.iconst (-1), 1) := by decide +kernel
theorem dX6_firstFault_38 : decode cX6_firstFault 38 = .ok (.goto 4, 3) := by decide +kernel
theorem dX6_firstFault_41 : decode cX6_firstFault 41 = .ok (.iload_n 2, 1) := by decide +kernel
theorem dX6_firstFault_42 : decode cX6_firstFault 42 = .ok (.ireturn, 1) := by decide +kernel
theorem dX6_goesOn_0 : decode cX6_goesOn 0 = .ok (.iload_n 0, 1) := by decide +kernel
theorem dX6_goesOn_1 : decode cX6_goesOn 1 = .ok (.ifCond .ne 15, 3) := by decide +kernel
theorem dX6_goesOn_4 : decode cX6_goesOn 4 = .ok (.iload_n 1, 1) := by decide +kernel
theorem dX6_goesOn_5 : decode cX6_goesOn 5 = .ok (.bipush 103, 2) := by decide +kernel
theorem dX6_goesOn_7 : decode cX6_goesOn 7 = .ok (.if_icmp .ne 7, 3) := by decide +kernel
theorem dX6_goesOn_10 : decode cX6_goesOn 10 = .ok (.iconst 1, 1) := by decide +kernel
theorem dX6_goesOn_11 : decode cX6_goesOn 11 = .ok (.goto 4, 3) := by decide +kernel
theorem dX6_goesOn_14 : decode cX6_goesOn 14 = .ok (.iconst 0, 1) := by decide +kernel
theorem dX6_goesOn_15 : decode cX6_goesOn 15 = .ok (.ireturn, 1) := by decide +kernel
theorem dX6_goesOn_16 : decode cX6_goesOn 16 = .ok (.iload_n 0, 1) := by decide +kernel
theorem dX6_goesOn_17 : decode cX6_goesOn 17 = .ok (.invokestatic 25, 3) := by decide +kernel
theorem dX6_goesOn_20 : decode cX6_goesOn 20 = .ok (.iconst 1, 1) := by decide +kernel
theorem dX6_goesOn_21 : decode cX6_goesOn 21 = .ok (.if_icmp .ne 25, 3) := by decide +kernel
theorem dX6_goesOn_24 : decode cX6_goesOn 24 = .ok (.iload_n 0, 1) := by decide +kernel
theorem dX6_goesOn_25 : decode cX6_goesOn 25 = .ok (.invokestatic 29, 3) := by decide +kernel
theorem dX6_goesOn_28 : decode cX6_goesOn 28 = .ok (.bipush 6, 2) := by decide +kernel
theorem dX6_goesOn_30 : decode cX6_goesOn 30 = .ok (.if_icmp .ge 14, 3) := by decide +kernel
theorem dX6_goesOn_33 : decode cX6_goesOn 33 = .ok (.iload_n 1, 1) := by decide +kernel
theorem dX6_goesOn_34 : decode cX6_goesOn 34 = .ok (.invokestatic 32, 3) := by decide +kernel
theorem dX6_goesOn_37 : decode cX6_goesOn 37 = .ok (.ifCond .lt 7, 3) := by decide +kernel
theorem dX6_goesOn_40 : decode cX6_goesOn 40 = .ok (.iconst 1, 1) := by decide +kernel
theorem dX6_goesOn_41 : decode cX6_goesOn 41 = .ok (.goto 4, 3) := by decide +kernel
theorem dX6_goesOn_44 : decode cX6_goesOn 44 = .ok (.iconst 0, 1) := by decide +kernel
theorem dX6_goesOn_45 : decode cX6_goesOn 45 = .ok (.ireturn, 1) := by decide +kernel
theorem dX6_goesOn_46 : decode cX6_goesOn 46 = .ok (.iload_n 1, 1) := by decide +kernel
theorem dX6_goesOn_47 : decode cX6_goesOn 47 = .ok (.bipush 48, 2) := by decide +kernel
theorem dX6_goesOn_49 : decode cX6_goesOn 49 = .ok (.if_icmp .lt 13, 3) := by decide +kernel
theorem dX6_goesOn_52 : decode cX6_goesOn 52 = .ok (.iload_n 1, 1) := by decide +kernel
theorem dX6_goesOn_53 : decode cX6_goesOn 53 = .ok (.bipush 57, 2) := by decide +kernel
theorem dX6_goesOn_55 : decode cX6_goesOn 55 = .ok (.if_icmp .gt 7, 3) := by decide +kernel
theorem dX6_goesOn_58 : decode cX6_goesOn 58 = .ok (.iconst 1, 1) := by decide +kernel
theorem dX6_goesOn_59 : decode cX6_goesOn 59 = .ok (.goto 4, 3) := by decide +kernel
theorem dX6_goesOn_62 : decode cX6_goesOn 62 = .ok (.iconst 0, 1) := by decide +kernel
theorem dX6_goesOn_63 : decode cX6_goesOn 63 = .ok (.ireturn, 1) := by decide +kernel
theorem dX6_isWhole_0 : decode cX6_isWhole 0 = .ok (.iload_n 0, 1) := by decide +kernel
theorem dX6_isWhole_1 : decode cX6_isWhole 1 = .ok (.iconst 1, 1) := by decide +kernel
theorem dX6_isWhole_2 : decode cX6_isWhole 2 = .ok (.if_icmp .le 25, 3) := by decide +kernel
theorem dX6_isWhole_5 : decode cX6_isWhole 5 = .ok (.iload_n 0, 1) := by decide +kernel
theorem dX6_isWhole_6 : decode cX6_isWhole 6 = .ok (.iconst 1, 1) := by decide +kernel
theorem dX6_isWhole_7 : decode cX6_isWhole 7 = .ok (.isub, 1) := by decide +kernel
theorem dX6_isWhole_8 : decode cX6_isWhole 8 = .ok (.invokestatic 25, 3) := by decide +kernel
theorem dX6_isWhole_11 : decode cX6_isWhole 11 = .ok (.ifCond .ne 16, 3) := by decide +kernel
theorem dX6_isWhole_14 : decode cX6_isWhole 14 = .ok (.iload_n 0, 1) := by decide +kernel
theorem dX6_isWhole_15 : decode cX6_isWhole 15 = .ok (.iconst 1, 1) := by decide +kernel
theorem dX6_isWhole_16 : decode cX6_isWhole 16 = .ok (.isub, 1) := by decide +kernel
theorem dX6_isWhole_17 : decode cX6_isWhole 17 = .ok (.invokestatic 29, 3) := by decide +kernel
theorem dX6_isWhole_20 : decode cX6_isWhole 20 = .ok (.ifCond .le 7, 3) := by decide +kernel
theorem dX6_isWhole_23 : decode cX6_isWhole 23 = .ok (.iconst 1, 1) := by decide +kernel
theorem dX6_isWhole_24 : decode cX6_isWhole 24 = .ok (.goto 4, 3) := by decide +kernel
theorem dX6_isWhole_27 : decode cX6_isWhole 27 = .ok (.iconst 0, 1) := by decide +kernel
theorem dX6_isWhole_28 : decode cX6_isWhole 28 = .ok (.ireturn, 1) := by decide +kernel
theorem dX6_partAt_0 : decode cX6_partAt 0 = .ok (.iload_n 0, 1) := by decide +kernel
theorem dX6_partAt_1 : decode cX6_partAt 1 = .ok (.iconst 1, 1) := by decide +kernel
theorem dX6_partAt_2 : decode cX6_partAt 2 = .ok (.isub, 1) := by decide +kernel
theorem dX6_partAt_3 : decode cX6_partAt 3 = .ok (.iconst 3, 1) := by decide +kernel
theorem dX6_partAt_4 : decode cX6_partAt 4 = .ok (.irem, 1) := by decide +kernel
theorem dX6_partAt_5 : decode cX6_partAt 5 = .ok (.ireturn, 1) := by decide +kernel
theorem dX6_gardenAt_0 : decode cX6_gardenAt 0 = .ok (.iload_n 0, 1) := by decide +kernel
theorem dX6_gardenAt_1 : decode cX6_gardenAt 1 = .ok (.iconst 1, 1) := by decide +kernel
theorem dX6_gardenAt_2 : decode cX6_gardenAt 2 = .ok (.isub, 1) := by decide +kernel
theorem dX6_gardenAt_3 : decode cX6_gardenAt 3 = .ok (.iconst 3, 1) := by decide +kernel
theorem dX6_gardenAt_4 : decode cX6_gardenAt 4 = .ok (.idiv, 1) := by decide +kernel
theorem dX6_gardenAt_5 : decode cX6_gardenAt 5 = .ok (.ireturn, 1) := by decide +kernel
theorem dX6_gardensOf_0 : decode cX6_gardensOf 0 = .ok (.iload_n 0, 1) := by decide +kernel
theorem dX6_gardensOf_1 : decode cX6_gardensOf 1 = .ok (.iconst 1, 1) := by decide +kernel
theorem dX6_gardensOf_2 : decode cX6_gardensOf 2 = .ok (.iadd, 1) := by decide +kernel
theorem dX6_gardensOf_3 : decode cX6_gardensOf 3 = .ok (.iconst 3, 1) := by decide +kernel
theorem dX6_gardensOf_4 : decode cX6_gardensOf 4 = .ok (.idiv, 1) := by decide +kernel
theorem dX6_gardensOf_5 : decode cX6_gardensOf 5 = .ok (.ireturn, 1) := by decide +kernel
theorem dX6_kindOf_0 : decode cX6_kindOf 0 = .ok (.iload_n 0, 1) := by decide +kernel
theorem dX6_kindOf_1 : decode cX6_kindOf 1 = .ok (.lookupswitch 41 #[(98, 39), (104, 35), (121, 37)], 35) := by decide +kernel
theorem dX6_kindOf_36 : decode cX6_kindOf 36 = .ok (.iconst 0, 1) := by decide +kernel
theorem dX6_kindOf_37 : decode cX6_kindOf 37 = .ok (.ireturn, 1) := by decide +kernel
theorem dX6_kindOf_38 : decode cX6_kindOf 38 = .ok (.iconst 1, 1) := by decide +kernel
theorem dX6_kindOf_39 : decode cX6_kindOf 39 = .ok (.ireturn, 1) := by decide +kernel
theorem dX6_kindOf_40 : decode cX6_kindOf 40 = .ok (.iconst 2, 1) := by decide +kernel
theorem dX6_kindOf_41 : decode cX6_kindOf 41 = .ok (.ireturn, 1) := by decide +kernel
theorem dX6_kindOf_42 : decode cX6_kindOf 42 = .ok (.iconst (-1), 1) := by decide +kernel
theorem dX6_kindOf_43 : decode cX6_kindOf 43 = .ok (.ireturn, 1) := by decide +kernel
theorem dX7_init_0 : decode cX7_init 0 = .ok (.aload_n 0, 1) := by decide +kernel
theorem dX7_init_1 : decode cX7_init 1 = .ok (.invokespecial 1, 3) := by decide +kernel
theorem dX7_init_4 : decode cX7_init 4 = .ok (.aload_n 0, 1) := by decide +kernel
theorem dX7_init_5 : decode cX7_init 5 = .ok (.iconst 0, 1) := by decide +kernel
theorem dX7_init_6 : decode cX7_init 6 = .ok (.putfield 7, 3) := by decide +kernel
theorem dX7_init_9 : decode cX7_init 9 = .ok (.return_, 1) := by decide +kernel
theorem dX7_enter_0 : decode cX7_enter 0 = .ok (.aload_n 0, 1) := by decide +kernel
theorem dX7_enter_1 : decode cX7_enter 1 = .ok (.bipush 31, 2) := by decide +kernel
theorem dX7_enter_3 : decode cX7_enter 3 = .ok (.aload_n 0, 1) := by decide +kernel
theorem dX7_enter_4 : decode cX7_enter 4 = .ok (.getfield 7, 3) := by decide +kernel
theorem dX7_enter_7 : decode cX7_enter 7 = .ok (.imul, 1) := by decide +kernel
theorem dX7_enter_8 : decode cX7_enter 8 = .ok (.iload_n 1, 1) := by decide +kernel
theorem dX7_enter_9 : decode cX7_enter 9 = .ok (.iadd, 1) := by decide +kernel
theorem dX7_enter_10 : decode cX7_enter 10 = .ok (.putfield 7, 3) := by decide +kernel
theorem dX7_enter_13 : decode cX7_enter 13 = .ok (.return_, 1) := by decide +kernel
theorem dX8_init_0 : decode cX8_init 0 = .ok (.aload_n 0, 1) := by decide +kernel
theorem dX8_init_1 : decode cX8_init 1 = .ok (.iload_n 1, 1) := by decide +kernel
theorem dX8_init_2 : decode cX8_init 2 = .ok (.iload_n 2, 1) := by decide +kernel
theorem dX8_init_3 : decode cX8_init 3 = .ok (.invokespecial 3, 3) := by decide +kernel
theorem dX8_init_6 : decode cX8_init 6 = .ok (.return_, 1) := by decide +kernel
theorem dX8_kind_0 : decode cX8_kind 0 = .ok (.iconst 1, 1) := by decide +kernel
theorem dX8_kind_1 : decode cX8_kind 1 = .ok (.ireturn, 1) := by decide +kernel
theorem dX8_growth_0 : decode cX8_growth 0 = .ok (.iload_n 1, 1) := by decide +kernel
theorem dX8_growth_1 : decode cX8_growth 1 = .ok (.ifCond .le 12, 3) := by decide +kernel
theorem dX8_growth_4 : decode cX8_growth 4 = .ok (.bipush 12, 2) := by decide +kernel
theorem dX8_growth_6 : decode cX8_growth 6 = .ok (.iload_n 1, 1) := by decide +kernel
theorem dX8_growth_7 : decode cX8_growth 7 = .ok (.imul, 1) := by decide +kernel
theorem dX8_growth_8 : decode cX8_growth 8 = .ok (.iconst 2, 1) := by decide +kernel
theorem dX8_growth_9 : decode cX8_growth 9 = .ok (.idiv, 1) := by decide +kernel
theorem dX8_growth_10 : decode cX8_growth 10 = .ok (.goto 6, 3) := by decide +kernel
theorem dX8_growth_13 : decode cX8_growth 13 = .ok (.iconst 3, 1) := by decide +kernel
theorem dX8_growth_14 : decode cX8_growth 14 = .ok (.iload_n 1, 1) := by decide +kernel
theorem dX8_growth_15 : decode cX8_growth 15 = .ok (.imul, 1) := by decide +kernel
theorem dX8_growth_16 : decode cX8_growth 16 = .ok (.ireturn, 1) := by decide +kernel
theorem dX8_telling_0 : decode cX8_telling 0 = .ok (.aload_n 1, 1) := by decide +kernel
theorem dX8_telling_1 : decode cX8_telling 1 = .ok (.iconst 2, 1) := by decide +kernel
theorem dX8_telling_2 : decode cX8_telling 2 = .ok (.invokevirtual 9, 3) := by decide +kernel
theorem dX8_telling_5 : decode cX8_telling 5 = .ok (.aload_n 0, 1) := by decide +kernel
theorem dX8_telling_6 : decode cX8_telling 6 = .ok (.aload_n 1, 1) := by decide +kernel
theorem dX8_telling_7 : decode cX8_telling 7 = .ok (.invokespecial 15, 3) := by decide +kernel
theorem dX8_telling_10 : decode cX8_telling 10 = .ok (.bipush 100, 2) := by decide +kernel
theorem dX8_telling_12 : decode cX8_telling 12 = .ok (.iadd, 1) := by decide +kernel
theorem dX8_telling_13 : decode cX8_telling 13 = .ok (.ireturn, 1) := by decide +kernel
theorem dX9_init_0 : decode cX9_init 0 = .ok (.aload_n 0, 1) := by decide +kernel
theorem dX9_init_1 : decode cX9_init 1 = .ok (.invokespecial 3, 3) := by decide +kernel
theorem dX9_init_4 : decode cX9_init 4 = .ok (.aload_n 0, 1) := by decide +kernel
theorem dX9_init_5 : decode cX9_init 5 = .ok (.new 9, 3) := by decide +kernel
theorem dX9_init_8 : decode cX9_init 8 = .ok (.dup, 1) := by decide +kernel
theorem dX9_init_9 : decode cX9_init 9 = .ok (.invokespecial 11, 3) := by decide +kernel
theorem dX9_init_12 : decode cX9_init 12 = .ok (.putfield 12, 3) := by decide +kernel
theorem dX9_init_15 : decode cX9_init 15 = .ok (.aload_n 0, 1) := by decide +kernel
theorem dX9_init_16 : decode cX9_init 16 = .ok (.new 18, 3) := by decide +kernel
theorem dX9_init_19 : decode cX9_init 19 = .ok (.dup, 1) := by decide +kernel
theorem dX9_init_20 : decode cX9_init 20 = .ok (.invokespecial 20, 3) := by decide +kernel
theorem dX9_init_23 : decode cX9_init 23 = .ok (.putfield 21, 3) := by decide +kernel
theorem dX9_init_26 : decode cX9_init 26 = .ok (.aload_n 0, 1) := by decide +kernel
theorem dX9_init_27 : decode cX9_init 27 = .ok (.new 25, 3) := by decide +kernel
theorem dX9_init_30 : decode cX9_init 30 = .ok (.dup, 1) := by decide +kernel
theorem dX9_init_31 : decode cX9_init 31 = .ok (.invokespecial 27, 3) := by decide +kernel
theorem dX9_init_34 : decode cX9_init 34 = .ok (.putfield 28, 3) := by decide +kernel
theorem dX9_init_37 : decode cX9_init 37 = .ok (.aload_n 0, 1) := by decide +kernel
theorem dX9_init_38 : decode cX9_init 38 = .ok (.iconst 4, 1) := by decide +kernel
theorem dX9_init_39 : decode cX9_init 39 = .ok (.anewarray 32, 3) := by decide +kernel
theorem dX9_init_42 : decode cX9_init 42 = .ok (.putfield 34, 3) := by decide +kernel
theorem dX9_init_45 : decode cX9_init 45 = .ok (.aload_n 0, 1) := by decide +kernel
theorem dX9_init_46 : decode cX9_init 46 = .ok (.iconst 0, 1) := by decide +kernel
theorem dX9_init_47 : decode cX9_init 47 = .ok (.putfield 38, 3) := by decide +kernel
theorem dX9_init_50 : decode cX9_init 50 = .ok (.iconst 0, 1) := by decide +kernel
theorem dX9_init_51 : decode cX9_init 51 = .ok (.istore_n 1, 1) := by decide +kernel
theorem dX9_init_52 : decode cX9_init 52 = .ok (.iload_n 1, 1) := by decide +kernel
theorem dX9_init_53 : decode cX9_init 53 = .ok (.iconst 4, 1) := by decide +kernel
theorem dX9_init_54 : decode cX9_init 54 = .ok (.if_icmp .ge 22, 3) := by decide +kernel
theorem dX9_init_57 : decode cX9_init 57 = .ok (.aload_n 0, 1) := by decide +kernel
theorem dX9_init_58 : decode cX9_init 58 = .ok (.getfield 34, 3) := by decide +kernel
theorem dX9_init_61 : decode cX9_init 61 = .ok (.iload_n 1, 1) := by decide +kernel
theorem dX9_init_62 : decode cX9_init 62 = .ok (.new 32, 3) := by decide +kernel
theorem dX9_init_65 : decode cX9_init 65 = .ok (.dup, 1) := by decide +kernel
theorem dX9_init_66 : decode cX9_init 66 = .ok (.invokespecial 42, 3) := by decide +kernel
theorem dX9_init_69 : decode cX9_init 69 = .ok (.aastore, 1) := by decide +kernel
theorem dX9_init_70 : decode cX9_init 70 = .ok (.iinc 1 1, 3) := by decide +kernel
theorem dX9_init_73 : decode cX9_init 73 = .ok (.goto (-21), 3) := by decide +kernel
theorem dX9_init_76 : decode cX9_init 76 = .ok (.return_, 1) := by decide +kernel
theorem dX9_gardens_0 : decode cX9_gardens 0 = .ok (.aload_n 0, 1) := by decide +kernel
theorem dX9_gardens_1 : decode cX9_gardens 1 = .ok (.iconst 0, 1) := by decide +kernel
theorem dX9_gardens_2 : decode cX9_gardens 2 = .ok (.putfield 38, 3) := by decide +kernel
theorem dX9_gardens_5 : decode cX9_gardens 5 = .ok (.iload_n 1, 1) := by decide +kernel
theorem dX9_gardens_6 : decode cX9_gardens 6 = .ok (.invokestatic 43, 3) := by decide +kernel
theorem dX9_gardens_9 : decode cX9_gardens 9 = .ok (.ifCond .ne 5, 3) := by decide +kernel
theorem dX9_gardens_12 : decode cX9_gardens 12 = .ok (.iconst (-1), 1) := by decide +kernel
theorem dX9_gardens_13 : decode cX9_gardens 13 = .ok (.ireturn, 1) := by decide +kernel
theorem dX9_gardens_14 : decode cX9_gardens 14 = .ok (.iload_n 2, 1) := by decide +kernel
theorem dX9_gardens_15 : decode cX9_gardens 15 = .ok (.iconst 2, 1) := by decide +kernel
theorem dX9_gardens_16 : decode cX9_gardens 16 = .ok (.invokestatic 47, 3) := by decide +kernel
theorem dX9_gardens_19 : decode cX9_gardens 19 = .ok (.ifCond .ne 6, 3) := by decide +kernel
theorem dX9_gardens_22 : decode cX9_gardens 22 = .ok (.bipush (-2), 2) := by decide +kernel
theorem dX9_gardens_24 : decode cX9_gardens 24 = .ok (.ireturn, 1) := by decide +kernel
theorem dX9_gardens_25 : decode cX9_gardens 25 = .ok (.aload_n 0, 1) := by decide +kernel
theorem dX9_gardens_26 : decode cX9_gardens 26 = .ok (.getfield 34, 3) := by decide +kernel
theorem dX9_gardens_29 : decode cX9_gardens 29 = .ok (.iload_n 1, 1) := by decide +kernel
theorem dX9_gardens_30 : decode cX9_gardens 30 = .ok (.aaload, 1) := by decide +kernel
theorem dX9_gardens_31 : decode cX9_gardens 31 = .ok (.astore 5, 2) := by decide +kernel
theorem dX9_gardens_33 : decode cX9_gardens 33 = .ok (.aload 5, 2) := by decide +kernel
theorem dX9_gardens_35 : decode cX9_gardens 35 = .ok (.iload_n 2, 1) := by decide +kernel
theorem dX9_gardens_36 : decode cX9_gardens 36 = .ok (.invokevirtual 51, 3) := by decide +kernel
theorem dX9_gardens_39 : decode cX9_gardens 39 = .ok (.ifCond .eq 9, 3) := by decide +kernel
theorem dX9_gardens_42 : decode cX9_gardens 42 = .ok (.aload_n 0, 1) := by decide +kernel
theorem dX9_gardens_43 : decode cX9_gardens 43 = .ok (.iconst 2, 1) := by decide +kernel
theorem dX9_gardens_44 : decode cX9_gardens 44 = .ok (.invokevirtual 54, 3) := by decide +kernel
theorem dX9_gardens_47 : decode cX9_gardens 47 = .ok (.ireturn, 1) := by decide +kernel
theorem dX9_gardens_48 : decode cX9_gardens 48 = .ok (.aload 5, 2) := by decide +kernel
theorem dX9_gardens_50 : decode cX9_gardens 50 = .ok (.invokevirtual 58, 3) := by decide +kernel
theorem dX9_gardens_53 : decode cX9_gardens 53 = .ok (.ifCond .eq 9, 3) := by decide +kernel
theorem dX9_gardens_56 : decode cX9_gardens 56 = .ok (.aload_n 0, 1) := by decide +kernel
theorem dX9_gardens_57 : decode cX9_gardens 57 = .ok (.iconst 1, 1) := by decide +kernel
theorem dX9_gardens_58 : decode cX9_gardens 58 = .ok (.invokevirtual 54, 3) := by decide +kernel
theorem dX9_gardens_61 : decode cX9_gardens 61 = .ok (.ireturn, 1) := by decide +kernel
theorem dX9_gardens_62 : decode cX9_gardens 62 = .ok (.iload 4, 2) := by decide +kernel
theorem dX9_gardens_64 : decode cX9_gardens 64 = .ok (.ifCond .ge 9, 3) := by decide +kernel
theorem dX9_gardens_67 : decode cX9_gardens 67 = .ok (.aload_n 0, 1) := by decide +kernel
theorem dX9_gardens_68 : decode cX9_gardens 68 = .ok (.iconst 4, 1) := by decide +kernel
theorem dX9_gardens_69 : decode cX9_gardens 69 = .ok (.invokevirtual 54, 3) := by decide +kernel
theorem dX9_gardens_72 : decode cX9_gardens 72 = .ok (.ireturn, 1) := by decide +kernel
theorem dX9_gardens_73 : decode cX9_gardens 73 = .ok (.aload 5, 2) := by decide +kernel
theorem dX9_gardens_75 : decode cX9_gardens 75 = .ok (.iload_n 3, 1) := by decide +kernel
theorem dX9_gardens_76 : decode cX9_gardens 76 = .ok (.iload 4, 2) := by decide +kernel
theorem dX9_gardens_78 : decode cX9_gardens 78 = .ok (.invokevirtual 62, 3) := by decide +kernel
theorem dX9_gardens_81 : decode cX9_gardens 81 = .ok (.ifCond .ne 9, 3) := by decide +kernel
theorem dX9_gardens_84 : decode cX9_gardens 84 = .ok (.aload_n 0, 1) := by decide +kernel
theorem dX9_gardens_85 : decode cX9_gardens 85 = .ok (.iconst 3, 1) := by decide +kernel
theorem dX9_gardens_86 : decode cX9_gardens 86 = .ok (.invokevirtual 54, 3) := by decide +kernel
theorem dX9_gardens_89 : decode cX9_gardens 89 = .ok (.ireturn, 1) := by decide +kernel
theorem dX9_gardens_90 : decode cX9_gardens 90 = .ok (.aload 5, 2) := by decide +kernel
theorem dX9_gardens_92 : decode cX9_gardens 92 = .ok (.iload_n 3, 1) := by decide +kernel
theorem dX9_gardens_93 : decode cX9_gardens 93 = .ok (.iload 4, 2) := by decide +kernel
theorem dX9_gardens_95 : decode cX9_gardens 95 = .ok (.invokestatic 65, 3) := by decide +kernel
theorem dX9_gardens_98 : decode cX9_gardens 98 = .ok (.istore 6, 2) := by decide +kernel
theorem dX9_gardens_100 : decode cX9_gardens 100 = .ok (.iload 6, 2) := by decide +kernel
theorem dX9_gardens_102 : decode cX9_gardens 102 = .ok (.iconst (-1), 1) := by decide +kernel
theorem dX9_gardens_103 : decode cX9_gardens 103 = .ok (.if_icmp .eq 9, 3) := by decide +kernel
theorem dX9_gardens_106 : decode cX9_gardens 106 = .ok (.bipush (-100), 2) := by decide +kernel
theorem dX9_gardens_108 : decode cX9_gardens 108 = .ok (.iload 6, 2) := by decide +kernel
theorem dX9_gardens_110 : decode cX9_gardens 110 = .ok (.isub, 1) := by decide +kernel
theorem dX9_gardens_111 : decode cX9_gardens 111 = .ok (.ireturn, 1) := by decide +kernel
theorem dX9_gardens_112 : decode cX9_gardens 112 = .ok (.aload_n 0, 1) := by decide +kernel
theorem dX9_gardens_113 : decode cX9_gardens 113 = .ok (.getfield 12, 3) := by decide +kernel
theorem dX9_gardens_116 : decode cX9_gardens 116 = .ok (.aload 5, 2) := by decide +kernel
theorem dX9_gardens_118 : decode cX9_gardens 118 = .ok (.iload_n 3, 1) := by decide +kernel
theorem dX9_gardens_119 : decode cX9_gardens 119 = .ok (.iload 4, 2) := by decide +kernel
theorem dX9_gardens_121 : decode cX9_gardens 121 = .ok (.invokevirtual 71, 3) := by decide +kernel
theorem dX9_gardens_124 : decode cX9_gardens 124 = .ok (.aload_n 0, 1) := by decide +kernel
theorem dX9_gardens_125 : decode cX9_gardens 125 = .ok (.getfield 21, 3) := by decide +kernel
theorem dX9_gardens_128 : decode cX9_gardens 128 = .ok (.invokevirtual 75, 3) := by decide +kernel
theorem dX9_gardens_131 : decode cX9_gardens 131 = .ok (.aload_n 0, 1) := by decide +kernel
theorem dX9_gardens_132 : decode cX9_gardens 132 = .ok (.getfield 12, 3) := by decide +kernel
theorem dX9_gardens_135 : decode cX9_gardens 135 = .ok (.getfield 78, 3) := by decide +kernel
theorem dX9_gardens_138 : decode cX9_gardens 138 = .ok (.ireturn, 1) := by decide +kernel
theorem dX9_wants_0 : decode cX9_wants 0 = .ok (.aload_n 0, 1) := by decide +kernel
theorem dX9_wants_1 : decode cX9_wants 1 = .ok (.getfield 12, 3) := by decide +kernel
theorem dX9_wants_4 : decode cX9_wants 4 = .ok (.iload_n 1, 1) := by decide +kernel
theorem dX9_wants_5 : decode cX9_wants 5 = .ok (.invokevirtual 81, 3) := by decide +kernel
theorem dX9_wants_8 : decode cX9_wants 8 = .ok (.ifCond .eq 15, 3) := by decide +kernel
theorem dX9_wants_11 : decode cX9_wants 11 = .ok (.aload_n 0, 1) := by decide +kernel
theorem dX9_wants_12 : decode cX9_wants 12 = .ok (.getfield 12, 3) := by decide +kernel
theorem dX9_wants_15 : decode cX9_wants 15 = .ok (.getfield 84, 3) := by decide +kernel
theorem dX9_wants_18 : decode cX9_wants 18 = .ok (.iload_n 1, 1) := by decide +kernel
theorem dX9_wants_19 : decode cX9_wants 19 = .ok (.iaload, 1) := by decide +kernel
theorem dX9_wants_20 : decode cX9_wants 20 = .ok (.goto 4, 3) := by decide +kernel
theorem dX9_wants_23 : decode cX9_wants 23 = .ok (.iconst (-1), 1) := by decide +kernel
theorem dX9_wants_24 : decode cX9_wants 24 = .ok (.ireturn, 1) := by decide +kernel
theorem dX9_ofHedge_0 : decode cX9_ofHedge 0 = .ok (.aload_n 0, 1) := by decide +kernel
theorem dX9_ofHedge_1 : decode cX9_ofHedge 1 = .ok (.getfield 12, 3) := by decide +kernel
theorem dX9_ofHedge_4 : decode cX9_ofHedge 4 = .ok (.iload_n 1, 1) := by decide +kernel
theorem dX9_ofHedge_5 : decode cX9_ofHedge 5 = .ok (.invokevirtual 88, 3) := by decide +kernel
theorem dX9_ofHedge_8 : decode cX9_ofHedge 8 = .ok (.ifCond .ne 5, 3) := by decide +kernel
theorem dX9_ofHedge_11 : decode cX9_ofHedge 11 = .ok (.iconst (-1), 1) := by decide +kernel
theorem dX9_ofHedge_12 : decode cX9_ofHedge 12 = .ok (.ireturn, 1) := by decide +kernel
theorem dX9_ofHedge_13 : decode cX9_ofHedge 13 = .ok (.iload_n 2, 1) := by decide +kernel
theorem dX9_ofHedge_14 : decode cX9_ofHedge 14 = .ok (.iconst 1, 1) := by decide +kernel
theorem dX9_ofHedge_15 : decode cX9_ofHedge 15 = .ok (.invokestatic 47, 3) := by decide +kernel
theorem dX9_ofHedge_18 : decode cX9_ofHedge 18 = .ok (.ifCond .ne 6, 3) := by decide +kernel
theorem dX9_ofHedge_21 : decode cX9_ofHedge 21 = .ok (.bipush (-2), 2) := by decide +kernel
theorem dX9_ofHedge_23 : decode cX9_ofHedge 23 = .ok (.ireturn, 1) := by decide +kernel
theorem dX9_ofHedge_24 : decode cX9_ofHedge 24 = .ok (.aload_n 0, 1) := by decide +kernel
theorem dX9_ofHedge_25 : decode cX9_ofHedge 25 = .ok (.getfield 12, 3) := by decide +kernel
theorem dX9_ofHedge_28 : decode cX9_ofHedge 28 = .ok (.getfield 91, 3) := by decide +kernel
theorem dX9_ofHedge_31 : decode cX9_ofHedge 31 = .ok (.iload_n 1, 1) := by decide +kernel
theorem dX9_ofHedge_32 : decode cX9_ofHedge 32 = .ok (.aaload, 1) := by decide +kernel
theorem dX9_ofHedge_33 : decode cX9_ofHedge 33 = .ok (.getfield 95, 3) := by decide +kernel
theorem dX9_ofHedge_36 : decode cX9_ofHedge 36 = .ok (.astore_n 3, 1) := by decide +kernel
theorem dX9_ofHedge_37 : decode cX9_ofHedge 37 = .ok (.iload_n 2, 1) := by decide +kernel
theorem dX9_ofHedge_38 : decode cX9_ofHedge 38 = .ok (.ifCond .ne 10, 3) := by decide +kernel
theorem dX9_ofHedge_41 : decode cX9_ofHedge 41 = .ok (.aload_n 3, 1) := by decide +kernel
theorem dX9_ofHedge_42 : decode cX9_ofHedge 42 = .ok (.invokevirtual 101, 3) := by decide +kernel
theorem dX9_ofHedge_45 : decode cX9_ofHedge 45 = .ok (.goto 7, 3) := by decide +kernel
theorem dX9_ofHedge_48 : decode cX9_ofHedge 48 = .ok (.aload_n 3, 1) := by decide +kernel
theorem dX9_ofHedge_49 : decode cX9_ofHedge 49 = .ok (.getfield 107, 3) := by decide +kernel
theorem dX9_ofHedge_52 : decode cX9_ofHedge 52 = .ok (.ireturn, 1) := by decide +kernel
theorem dX9_say_0 : decode cX9_say 0 = .ok (.aload_n 0, 1) := by decide +kernel
theorem dX9_say_1 : decode cX9_say 1 = .ok (.getfield 12, 3) := by decide +kernel
theorem dX9_say_4 : decode cX9_say 4 = .ok (.iload_n 1, 1) := by decide +kernel
theorem dX9_say_5 : decode cX9_say 5 = .ok (.invokevirtual 81, 3) := by decide +kernel
theorem dX9_say_8 : decode cX9_say 8 = .ok (.ifCond .ne 5, 3) := by decide +kernel
theorem dX9_say_11 : decode cX9_say 11 = .ok (.iconst (-1), 1) := by decide +kernel
theorem dX9_say_12 : decode cX9_say 12 = .ok (.ireturn, 1) := by decide +kernel
theorem dX9_say_13 : decode cX9_say 13 = .ok (.iload_n 2, 1) := by decide +kernel
theorem dX9_say_14 : decode cX9_say 14 = .ok (.invokestatic 110, 3) := by decide +kernel
theorem dX9_say_17 : decode cX9_say 17 = .ok (.ifCond .eq 22, 3) := by decide +kernel
theorem dX9_say_20 : decode cX9_say 20 = .ok (.iload_n 3, 1) := by decide +kernel
theorem dX9_say_21 : decode cX9_say 21 = .ok (.invokestatic 113, 3) := by decide +kernel
theorem dX9_say_24 : decode cX9_say 24 = .ok (.ifCond .eq 15, 3) := by decide +kernel
theorem dX9_say_27 : decode cX9_say 27 = .ok (.iload 4, 2) := by decide +kernel
theorem dX9_say_29 : decode cX9_say 29 = .ok (.invokestatic 116, 3) := by decide +kernel
theorem dX9_say_32 : decode cX9_say 32 = .ok (.iconst 3, 1) := by decide +kernel
theorem dX9_say_33 : decode cX9_say 33 = .ok (.invokestatic 47, 3) := by decide +kernel
theorem dX9_say_36 : decode cX9_say 36 = .ok (.ifCond .ne 6, 3) := by decide +kernel
theorem dX9_say_39 : decode cX9_say 39 = .ok (.bipush (-2), 2) := by decide +kernel
theorem dX9_say_41 : decode cX9_say 41 = .ok (.ireturn, 1) := by decide +kernel
theorem dX9_say_42 : decode cX9_say 42 = .ok (.iload_n 1, 1) := by decide +kernel
theorem dX9_say_43 : decode cX9_say 43 = .ok (.iload_n 2, 1) := by decide +kernel
theorem dX9_say_44 : decode cX9_say 44 = .ok (.invokestatic 121, 3) := by decide +kernel
theorem dX9_say_47 : decode cX9_say 47 = .ok (.istore 5, 2) := by decide +kernel
theorem dX9_say_49 : decode cX9_say 49 = .ok (.aload_n 0, 1) := by decide +kernel
theorem dX9_say_50 : decode cX9_say 50 = .ok (.getfield 12, 3) := by decide +kernel
theorem dX9_say_53 : decode cX9_say 53 = .ok (.iload 5, 2) := by decide +kernel
theorem dX9_say_55 : decode cX9_say 55 = .ok (.invokevirtual 88, 3) := by decide +kernel
theorem dX9_say_58 : decode cX9_say 58 = .ok (.ifCond .ne 5, 3) := by decide +kernel
theorem dX9_say_61 : decode cX9_say 61 = .ok (.iconst (-1), 1) := by decide +kernel
theorem dX9_say_62 : decode cX9_say 62 = .ok (.ireturn, 1) := by decide +kernel
theorem dX9_say_63 : decode cX9_say 63 = .ok (.aload_n 0, 1) := by decide +kernel
theorem dX9_say_64 : decode cX9_say 64 = .ok (.getfield 12, 3) := by decide +kernel
theorem dX9_say_67 : decode cX9_say 67 = .ok (.getfield 91, 3) := by decide +kernel
theorem dX9_say_70 : decode cX9_say 70 = .ok (.iload 5, 2) := by decide +kernel
theorem dX9_say_72 : decode cX9_say 72 = .ok (.aaload, 1) := by decide +kernel
theorem dX9_say_73 : decode cX9_say 73 = .ok (.iload_n 2, 1) := by decide +kernel
theorem dX9_say_74 : decode cX9_say 74 = .ok (.invokestatic 125, 3) := by decide +kernel
theorem dX9_say_77 : decode cX9_say 77 = .ok (.iload_n 3, 1) := by decide +kernel
theorem dX9_say_78 : decode cX9_say 78 = .ok (.iload 4, 2) := by decide +kernel
theorem dX9_say_80 : decode cX9_say 80 = .ok (.invokevirtual 128, 3) := by decide +kernel
theorem dX9_say_83 : decode cX9_say 83 = .ok (.bipush 10, 2) := by decide +kernel
theorem dX9_say_85 : decode cX9_say 85 = .ok (.iadd, 1) := by decide +kernel
theorem dX9_say_86 : decode cX9_say 86 = .ok (.ireturn, 1) := by decide +kernel
theorem dX9_clip_0 : decode cX9_clip 0 = .ok (.aload_n 0, 1) := by decide +kernel
theorem dX9_clip_1 : decode cX9_clip 1 = .ok (.getfield 12, 3) := by decide +kernel
theorem dX9_clip_4 : decode cX9_clip 4 = .ok (.iload_n 1, 1) := by decide +kernel
theorem dX9_clip_5 : decode cX9_clip 5 = .ok (.invokevirtual 88, 3) := by decide +kernel
theorem dX9_clip_8 : decode cX9_clip 8 = .ok (.ifCond .ne 5, 3) := by decide +kernel
theorem dX9_clip_11 : decode cX9_clip 11 = .ok (.iconst (-1), 1) := by decide +kernel
theorem dX9_clip_12 : decode cX9_clip 12 = .ok (.ireturn, 1) := by decide +kernel
theorem dX9_clip_13 : decode cX9_clip 13 = .ok (.iload_n 2, 1) := by decide +kernel
theorem dX9_clip_14 : decode cX9_clip 14 = .ok (.invokestatic 113, 3) := by decide +kernel
theorem dX9_clip_17 : decode cX9_clip 17 = .ok (.ifCond .eq 16, 3) := by decide +kernel
theorem dX9_clip_20 : decode cX9_clip 20 = .ok (.iload_n 3, 1) := by decide +kernel
theorem dX9_clip_21 : decode cX9_clip 21 = .ok (.bipush (-9), 2) := by decide +kernel
theorem dX9_clip_23 : decode cX9_clip 23 = .ok (.if_icmp .eq 13, 3) := by decide +kernel
theorem dX9_clip_26 : decode cX9_clip 26 = .ok (.iload_n 3, 1) := by decide +kernel
theorem dX9_clip_27 : decode cX9_clip 27 = .ok (.invokestatic 132, 3) := by decide +kernel
theorem dX9_clip_30 : decode cX9_clip 30 = .ok (.ifCond .ne 6, 3) := by decide +kernel
theorem dX9_clip_33 : decode cX9_clip 33 = .ok (.bipush (-2), 2) := by decide +kernel
theorem dX9_clip_35 : decode cX9_clip 35 = .ok (.ireturn, 1) := by decide +kernel
theorem dX9_clip_36 : decode cX9_clip 36 = .ok (.aload_n 0, 1) := by decide +kernel
theorem dX9_clip_37 : decode cX9_clip 37 = .ok (.getfield 12, 3) := by decide +kernel
theorem dX9_clip_40 : decode cX9_clip 40 = .ok (.getfield 91, 3) := by decide +kernel
theorem dX9_clip_43 : decode cX9_clip 43 = .ok (.iload_n 1, 1) := by decide +kernel
theorem dX9_clip_44 : decode cX9_clip 44 = .ok (.aaload, 1) := by decide +kernel
theorem dX9_clip_45 : decode cX9_clip 45 = .ok (.iload_n 2, 1) := by decide +kernel
theorem dX9_clip_46 : decode cX9_clip 46 = .ok (.iload_n 3, 1) := by decide +kernel
theorem dX9_clip_47 : decode cX9_clip 47 = .ok (.invokevirtual 135, 3) := by decide +kernel
theorem dX9_clip_50 : decode cX9_clip 50 = .ok (.ireturn, 1) := by decide +kernel
theorem dX9_face_0 : decode cX9_face 0 = .ok (.aload_n 0, 1) := by decide +kernel
theorem dX9_face_1 : decode cX9_face 1 = .ok (.getfield 12, 3) := by decide +kernel
theorem dX9_face_4 : decode cX9_face 4 = .ok (.iload_n 1, 1) := by decide +kernel
theorem dX9_face_5 : decode cX9_face 5 = .ok (.invokevirtual 88, 3) := by decide +kernel
theorem dX9_face_8 : decode cX9_face 8 = .ok (.ifCond .ne 5, 3) := by decide +kernel
theorem dX9_face_11 : decode cX9_face 11 = .ok (.iconst (-1), 1) := by decide +kernel
theorem dX9_face_12 : decode cX9_face 12 = .ok (.ireturn, 1) := by decide +kernel
theorem dX9_face_13 : decode cX9_face 13 = .ok (.iload_n 2, 1) := by decide +kernel
theorem dX9_face_14 : decode cX9_face 14 = .ok (.invokestatic 110, 3) := by decide +kernel
theorem dX9_face_17 : decode cX9_face 17 = .ok (.ifCond .eq 10, 3) := by decide +kernel
theorem dX9_face_20 : decode cX9_face 20 = .ok (.iload_n 3, 1) := by decide +kernel
theorem dX9_face_21 : decode cX9_face 21 = .ok (.invokestatic 138, 3) := by decide +kernel
theorem dX9_face_24 : decode cX9_face 24 = .ok (.ifCond .ne 6, 3) := by decide +kernel
theorem dX9_face_27 : decode cX9_face 27 = .ok (.bipush (-2), 2) := by decide +kernel
theorem dX9_face_29 : decode cX9_face 29 = .ok (.ireturn, 1) := by decide +kernel
theorem dX9_face_30 : decode cX9_face 30 = .ok (.aload_n 0, 1) := by decide +kernel
theorem dX9_face_31 : decode cX9_face 31 = .ok (.getfield 12, 3) := by decide +kernel
theorem dX9_face_34 : decode cX9_face 34 = .ok (.getfield 91, 3) := by decide +kernel
theorem dX9_face_37 : decode cX9_face 37 = .ok (.iload_n 1, 1) := by decide +kernel
theorem dX9_face_38 : decode cX9_face 38 = .ok (.aaload, 1) := by decide +kernel
theorem dX9_face_39 : decode cX9_face 39 = .ok (.getfield 141, 3) := by decide +kernel
theorem dX9_face_42 : decode cX9_face 42 = .ok (.iload_n 2, 1) := by decide +kernel
theorem dX9_face_43 : decode cX9_face 43 = .ok (.aaload, 1) := by decide +kernel
theorem dX9_face_44 : decode cX9_face 44 = .ok (.iload_n 3, 1) := by decide +kernel
theorem dX9_face_45 : decode cX9_face 45 = .ok (.iaload, 1) := by decide +kernel
theorem dX9_face_46 : decode cX9_face 46 = .ok (.ireturn, 1) := by decide +kernel
theorem dX9_height_0 : decode cX9_height 0 = .ok (.aload_n 0, 1) := by decide +kernel
theorem dX9_height_1 : decode cX9_height 1 = .ok (.getfield 12, 3) := by decide +kernel
theorem dX9_height_4 : decode cX9_height 4 = .ok (.iload_n 1, 1) := by decide +kernel
theorem dX9_height_5 : decode cX9_height 5 = .ok (.invokevirtual 88, 3) := by decide +kernel
theorem dX9_height_8 : decode cX9_height 8 = .ok (.ifCond .ne 5, 3) := by decide +kernel
theorem dX9_height_11 : decode cX9_height 11 = .ok (.iconst (-1), 1) := by decide +kernel
theorem dX9_height_12 : decode cX9_height 12 = .ok (.ireturn, 1) := by decide +kernel
theorem dX9_height_13 : decode cX9_height 13 = .ok (.iload_n 2, 1) := by decide +kernel
theorem dX9_height_14 : decode cX9_height 14 = .ok (.invokestatic 138, 3) := by decide +kernel
theorem dX9_height_17 : decode cX9_height 17 = .ok (.ifCond .eq 11, 3) := by decide +kernel
theorem dX9_height_20 : decode cX9_height 20 = .ok (.iload_n 3, 1) := by decide +kernel
theorem dX9_height_21 : decode cX9_height 21 = .ok (.iconst 1, 1) := by decide +kernel
theorem dX9_height_22 : decode cX9_height 22 = .ok (.invokestatic 47, 3) := by decide +kernel
theorem dX9_height_25 : decode cX9_height 25 = .ok (.ifCond .ne 6, 3) := by decide +kernel
theorem dX9_height_28 : decode cX9_height 28 = .ok (.bipush (-2), 2) := by decide +kernel
theorem dX9_height_30 : decode cX9_height 30 = .ok (.ireturn, 1) := by decide +kernel
theorem dX9_height_31 : decode cX9_height 31 = .ok (.aload_n 0, 1) := by decide +kernel
theorem dX9_height_32 : decode cX9_height 32 = .ok (.getfield 12, 3) := by decide +kernel
theorem dX9_height_35 : decode cX9_height 35 = .ok (.getfield 91, 3) := by decide +kernel
theorem dX9_height_38 : decode cX9_height 38 = .ok (.iload_n 1, 1) := by decide +kernel
theorem dX9_height_39 : decode cX9_height 39 = .ok (.aaload, 1) := by decide +kernel
theorem dX9_height_40 : decode cX9_height 40 = .ok (.astore 4, 2) := by decide +kernel
theorem dX9_height_42 : decode cX9_height 42 = .ok (.iload_n 3, 1) := by decide +kernel
theorem dX9_height_43 : decode cX9_height 43 = .ok (.ifCond .ne 12, 3) := by decide +kernel
theorem dX9_height_46 : decode cX9_height 46 = .ok (.aload 4, 2) := by decide +kernel
theorem dX9_height_48 : decode cX9_height 48 = .ok (.iload_n 2, 1) := by decide +kernel
theorem dX9_height_49 : decode cX9_height 49 = .ok (.invokevirtual 145, 3) := by decide +kernel
theorem dX9_height_52 : decode cX9_height 52 = .ok (.goto 13, 3) := by decide +kernel
theorem dX9_height_55 : decode cX9_height 55 = .ok (.aload 4, 2) := by decide +kernel
theorem dX9_height_57 : decode cX9_height 57 = .ok (.iload_n 2, 1) := by decide +kernel
theorem dX9_height_58 : decode cX9_height 58 = .ok (.invokevirtual 148, 3) := by decide +kernel
theorem dX9_height_61 : decode cX9_height 61 = .ok (.sipush 1000, 3) := by decide +kernel
theorem dX9_height_64 : decode cX9_height 64 = .ok (.iadd, 1) := by decide +kernel
theorem dX9_height_65 : decode cX9_height 65 = .ok (.ireturn, 1) := by decide +kernel
theorem dX9_light_0 : decode cX9_light 0 = .ok (.aload_n 0, 1) := by decide +kernel
theorem dX9_light_1 : decode cX9_light 1 = .ok (.getfield 12, 3) := by decide +kernel
theorem dX9_light_4 : decode cX9_light 4 = .ok (.iload_n 1, 1) := by decide +kernel
theorem dX9_light_5 : decode cX9_light 5 = .ok (.invokevirtual 81, 3) := by decide +kernel
theorem dX9_light_8 : decode cX9_light 8 = .ok (.ifCond .ne 5, 3) := by decide +kernel
theorem dX9_light_11 : decode cX9_light 11 = .ok (.iconst (-1), 1) := by decide +kernel
theorem dX9_light_12 : decode cX9_light 12 = .ok (.ireturn, 1) := by decide +kernel
theorem dX9_light_13 : decode cX9_light 13 = .ok (.iload_n 2, 1) := by decide +kernel
theorem dX9_light_14 : decode cX9_light 14 = .ok (.invokestatic 138, 3) := by decide +kernel
theorem dX9_light_17 : decode cX9_light 17 = .ok (.ifCond .ne 6, 3) := by decide +kernel
theorem dX9_light_20 : decode cX9_light 20 = .ok (.bipush (-2), 2) := by decide +kernel
theorem dX9_light_22 : decode cX9_light 22 = .ok (.ireturn, 1) := by decide +kernel
theorem dX9_light_23 : decode cX9_light 23 = .ok (.aload_n 0, 1) := by decide +kernel
theorem dX9_light_24 : decode cX9_light 24 = .ok (.getfield 12, 3) := by decide +kernel
theorem dX9_light_27 : decode cX9_light 27 = .ok (.iload_n 1, 1) := by decide +kernel
theorem dX9_light_28 : decode cX9_light 28 = .ok (.iload_n 2, 1) := by decide +kernel
theorem dX9_light_29 : decode cX9_light 29 = .ok (.iconst (-1), 1) := by decide +kernel
theorem dX9_light_30 : decode cX9_light 30 = .ok (.iconst 0, 1) := by decide +kernel
theorem dX9_light_31 : decode cX9_light 31 = .ok (.invokevirtual 151, 3) := by decide +kernel
theorem dX9_light_34 : decode cX9_light 34 = .ok (.ireturn, 1) := by decide +kernel
theorem dX9_goats_0 : decode cX9_goats 0 = .ok (.iload_n 1, 1) := by decide +kernel
theorem dX9_goats_1 : decode cX9_goats 1 = .ok (.invokestatic 138, 3) := by decide +kernel
theorem dX9_goats_4 : decode cX9_goats 4 = .ok (.ifCond .ne 6, 3) := by decide +kernel
theorem dX9_goats_7 : decode cX9_goats 7 = .ok (.bipush (-2), 2) := by decide +kernel
theorem dX9_goats_9 : decode cX9_goats 9 = .ok (.ireturn, 1) := by decide +kernel
theorem dX9_goats_10 : decode cX9_goats 10 = .ok (.aload_n 0, 1) := by decide +kernel
theorem dX9_goats_11 : decode cX9_goats 11 = .ok (.getfield 12, 3) := by decide +kernel
theorem dX9_goats_14 : decode cX9_goats 14 = .ok (.getfield 78, 3) := by decide +kernel
theorem dX9_goats_17 : decode cX9_goats 17 = .ok (.ifCond .ne 6, 3) := by decide +kernel
theorem dX9_goats_20 : decode cX9_goats 20 = .ok (.bipush (-3), 2) := by decide +kernel
theorem dX9_goats_22 : decode cX9_goats 22 = .ok (.ireturn, 1) := by decide +kernel
theorem dX9_goats_23 : decode cX9_goats 23 = .ok (.iconst 2, 1) := by decide +kernel
theorem dX9_goats_24 : decode cX9_goats 24 = .ok (.aload_n 0, 1) := by decide +kernel
theorem dX9_goats_25 : decode cX9_goats 25 = .ok (.getfield 12, 3) := by decide +kernel
theorem dX9_goats_28 : decode cX9_goats 28 = .ok (.iload_n 1, 1) := by decide +kernel
theorem dX9_goats_29 : decode cX9_goats 29 = .ok (.iconst (-1), 1) := by decide +kernel
theorem dX9_goats_30 : decode cX9_goats 30 = .ok (.iconst 0, 1) := by decide +kernel
theorem dX9_goats_31 : decode cX9_goats 31 = .ok (.invokevirtual 155, 3) := by decide +kernel
theorem dX9_goats_34 : decode cX9_goats 34 = .ok (.ishl, 1) := by decide +kernel
theorem dX9_goats_35 : decode cX9_goats 35 = .ok (.iconst 1, 1) := by decide +kernel
theorem dX9_goats_36 : decode cX9_goats 36 = .ok (.isub, 1) := by decide +kernel
theorem dX9_goats_37 : decode cX9_goats 37 = .ok (.ireturn, 1) := by decide +kernel
theorem dX9_off_0 : decode cX9_off 0 = .ok (.aload_n 0, 1) := by decide +kernel
theorem dX9_off_1 : decode cX9_off 1 = .ok (.getfield 12, 3) := by decide +kernel
theorem dX9_off_4 : decode cX9_off 4 = .ok (.iload_n 1, 1) := by decide +kernel
theorem dX9_off_5 : decode cX9_off 5 = .ok (.invokevirtual 81, 3) := by decide +kernel
theorem dX9_off_8 : decode cX9_off 8 = .ok (.ifCond .ne 5, 3) := by decide +kernel
theorem dX9_off_11 : decode cX9_off 11 = .ok (.iconst (-1), 1) := by decide +kernel
theorem dX9_off_12 : decode cX9_off 12 = .ok (.ireturn, 1) := by decide +kernel
theorem dX9_off_13 : decode cX9_off 13 = .ok (.iload_n 2, 1) := by decide +kernel
theorem dX9_off_14 : decode cX9_off 14 = .ok (.invokestatic 138, 3) := by decide +kernel
theorem dX9_off_17 : decode cX9_off 17 = .ok (.ifCond .ne 6, 3) := by decide +kernel
theorem dX9_off_20 : decode cX9_off 20 = .ok (.bipush (-2), 2) := by decide +kernel
theorem dX9_off_22 : decode cX9_off 22 = .ok (.ireturn, 1) := by decide +kernel
theorem dX9_off_23 : decode cX9_off 23 = .ok (.aload_n 0, 1) := by decide +kernel
theorem dX9_off_24 : decode cX9_off 24 = .ok (.getfield 12, 3) := by decide +kernel
theorem dX9_off_27 : decode cX9_off 27 = .ok (.iload_n 1, 1) := by decide +kernel
theorem dX9_off_28 : decode cX9_off 28 = .ok (.iload_n 2, 1) := by decide +kernel
theorem dX9_off_29 : decode cX9_off 29 = .ok (.iconst (-1), 1) := by decide +kernel
theorem dX9_off_30 : decode cX9_off 30 = .ok (.iconst 0, 1) := by decide +kernel
theorem dX9_off_31 : decode cX9_off 31 = .ok (.invokevirtual 158, 3) := by decide +kernel
theorem dX9_off_34 : decode cX9_off 34 = .ok (.ireturn, 1) := by decide +kernel
theorem dX9_scold_0 : decode cX9_scold 0 = .ok (.iload_n 3, 1) := by decide +kernel
theorem dX9_scold_1 : decode cX9_scold 1 = .ok (.iconst (-1), 1) := by decide +kernel
theorem dX9_scold_2 : decode cX9_scold 2 = .ok (.if_icmp .eq 16, 3) := by decide +kernel
theorem dX9_scold_5 : decode cX9_scold 5 = .ok (.aload_n 0, 1) := by decide +kernel
theorem dX9_scold_6 : decode cX9_scold 6 = .ok (.getfield 12, 3) := by decide +kernel
theorem dX9_scold_9 : decode cX9_scold 9 = .ok (.iload_n 3, 1) := by decide +kernel
theorem dX9_scold_10 : decode cX9_scold 10 = .ok (.invokevirtual 88, 3) := by decide +kernel
theorem dX9_scold_13 : decode cX9_scold 13 = .ok (.ifCond .ne 5, 3) := by decide +kernel
theorem dX9_scold_16 : decode cX9_scold 16 = .ok (.iconst (-1), 1) := by decide +kernel
theorem dX9_scold_17 : decode cX9_scold 17 = .ok (.ireturn, 1) := by decide +kernel
theorem dX9_scold_18 : decode cX9_scold 18 = .ok (.iload_n 1, 1) := by decide +kernel
theorem dX9_scold_19 : decode cX9_scold 19 = .ok (.invokestatic 113, 3) := by decide +kernel
theorem dX9_scold_22 : decode cX9_scold 22 = .ok (.ifCond .eq 18, 3) := by decide +kernel
theorem dX9_scold_25 : decode cX9_scold 25 = .ok (.iload_n 2, 1) := by decide +kernel
theorem dX9_scold_26 : decode cX9_scold 26 = .ok (.invokestatic 132, 3) := by decide +kernel
theorem dX9_scold_29 : decode cX9_scold 29 = .ok (.ifCond .eq 11, 3) := by decide +kernel
theorem dX9_scold_32 : decode cX9_scold 32 = .ok (.iload 4, 2) := by decide +kernel
theorem dX9_scold_34 : decode cX9_scold 34 = .ok (.invokestatic 110, 3) := by decide +kernel
theorem dX9_scold_37 : decode cX9_scold 37 = .ok (.ifCond .ne 6, 3) := by decide +kernel
theorem dX9_scold_40 : decode cX9_scold 40 = .ok (.bipush (-2), 2) := by decide +kernel
theorem dX9_scold_42 : decode cX9_scold 42 = .ok (.ireturn, 1) := by decide +kernel
theorem dX9_scold_43 : decode cX9_scold 43 = .ok (.aload_n 0, 1) := by decide +kernel
theorem dX9_scold_44 : decode cX9_scold 44 = .ok (.getfield 12, 3) := by decide +kernel
theorem dX9_scold_47 : decode cX9_scold 47 = .ok (.getfield 78, 3) := by decide +kernel
theorem dX9_scold_50 : decode cX9_scold 50 = .ok (.ifCond .ne 6, 3) := by decide +kernel
theorem dX9_scold_53 : decode cX9_scold 53 = .ok (.bipush (-3), 2) := by decide +kernel
theorem dX9_scold_55 : decode cX9_scold 55 = .ok (.ireturn, 1) := by decide +kernel
theorem dX9_scold_56 : decode cX9_scold 56 = .ok (.iload_n 3, 1) := by decide +kernel
theorem dX9_scold_57 : decode cX9_scold 57 = .ok (.iconst (-1), 1) := by decide +kernel
theorem dX9_scold_58 : decode cX9_scold 58 = .ok (.if_icmp .ne 13, 3) := by decide +kernel
theorem dX9_scold_61 : decode cX9_scold 61 = .ok (.aload_n 0, 1) := by decide +kernel
theorem dX9_scold_62 : decode cX9_scold 62 = .ok (.getfield 12, 3) := by decide +kernel
theorem dX9_scold_65 : decode cX9_scold 65 = .ok (.iload_n 1, 1) := by decide +kernel
theorem dX9_scold_66 : decode cX9_scold 66 = .ok (.iload_n 2, 1) := by decide +kernel
theorem dX9_scold_67 : decode cX9_scold 67 = .ok (.invokevirtual 161, 3) := by decide +kernel
theorem dX9_scold_70 : decode cX9_scold 70 = .ok (.ireturn, 1) := by decide +kernel
theorem dX9_scold_71 : decode cX9_scold 71 = .ok (.aload_n 0, 1) := by decide +kernel
theorem dX9_scold_72 : decode cX9_scold 72 = .ok (.getfield 12, 3) := by decide +kernel
theorem dX9_scold_75 : decode cX9_scold 75 = .ok (.getfield 91, 3) := by decide +kernel
theorem dX9_scold_78 : decode cX9_scold 78 = .ok (.iload_n 3, 1) := by decide +kernel
theorem dX9_scold_79 : decode cX9_scold 79 = .ok (.aaload, 1) := by decide +kernel
theorem dX9_scold_80 : decode cX9_scold 80 = .ok (.iload 4, 2) := by decide +kernel
theorem dX9_scold_82 : decode cX9_scold 82 = .ok (.iload_n 1, 1) := by decide +kernel
theorem dX9_scold_83 : decode cX9_scold 83 = .ok (.iload_n 2, 1) := by decide +kernel
theorem dX9_scold_84 : decode cX9_scold 84 = .ok (.invokevirtual 164, 3) := by decide +kernel
theorem dX9_scold_87 : decode cX9_scold 87 = .ok (.istore 5, 2) := by decide +kernel
theorem dX9_scold_89 : decode cX9_scold 89 = .ok (.iload 5, 2) := by decide +kernel
theorem dX9_scold_91 : decode cX9_scold 91 = .ok (.bipush (-9), 2) := by decide +kernel
theorem dX9_scold_93 : decode cX9_scold 93 = .ok (.if_icmp .ne 8, 3) := by decide +kernel
theorem dX9_scold_96 : decode cX9_scold 96 = .ok (.bipush (-9), 2) := by decide +kernel
theorem dX9_scold_98 : decode cX9_scold 98 = .ok (.goto 8, 3) := by decide +kernel
theorem dX9_scold_101 : decode cX9_scold 101 = .ok (.iload 5, 2) := by decide +kernel
theorem dX9_scold_103 : decode cX9_scold 103 = .ok (.bipush 10, 2) := by decide +kernel
theorem dX9_scold_105 : decode cX9_scold 105 = .ok (.iadd, 1) := by decide +kernel
theorem dX9_scold_106 : decode cX9_scold 106 = .ok (.ireturn, 1) := by decide +kernel
theorem dX9_reading_0 : decode cX9_reading 0 = .ok (.aload_n 0, 1) := by decide +kernel
theorem dX9_reading_1 : decode cX9_reading 1 = .ok (.getfield 12, 3) := by decide +kernel
theorem dX9_reading_4 : decode cX9_reading 4 = .ok (.iload_n 1, 1) := by decide +kernel
theorem dX9_reading_5 : decode cX9_reading 5 = .ok (.invokevirtual 88, 3) := by decide +kernel
theorem dX9_reading_8 : decode cX9_reading 8 = .ok (.ifCond .ne 5, 3) := by decide +kernel
theorem dX9_reading_11 : decode cX9_reading 11 = .ok (.iconst (-1), 1) := by decide +kernel
theorem dX9_reading_12 : decode cX9_reading 12 = .ok (.ireturn, 1) := by decide +kernel
theorem dX9_reading_13 : decode cX9_reading 13 = .ok (.iload_n 2, 1) := by decide +kernel
theorem dX9_reading_14 : decode cX9_reading 14 = .ok (.invokestatic 110, 3) := by decide +kernel
theorem dX9_reading_17 : decode cX9_reading 17 = .ok (.ifCond .eq 21, 3) := by decide +kernel
theorem dX9_reading_20 : decode cX9_reading 20 = .ok (.iload_n 3, 1) := by decide +kernel
theorem dX9_reading_21 : decode cX9_reading 21 = .ok (.invokestatic 138, 3) := by decide +kernel
theorem dX9_reading_24 : decode cX9_reading 24 = .ok (.ifCond .eq 14, 3) := by decide +kernel
theorem dX9_reading_27 : decode cX9_reading 27 = .ok (.iload 4, 2) := by decide +kernel
theorem dX9_reading_29 : decode cX9_reading 29 = .ok (.sipush 240, 3) := by decide +kernel
theorem dX9_reading_32 : decode cX9_reading 32 = .ok (.invokestatic 47, 3) := by decide +kernel
theorem dX9_reading_35 : decode cX9_reading 35 = .ok (.ifCond .ne 6, 3) := by decide +kernel
theorem dX9_reading_38 : decode cX9_reading 38 = .ok (.bipush (-2), 2) := by decide +kernel
theorem dX9_reading_40 : decode cX9_reading 40 = .ok (.ireturn, 1) := by decide +kernel
theorem dX9_reading_41 : decode cX9_reading 41 = .ok (.aload_n 0, 1) := by decide +kernel
theorem dX9_reading_42 : decode cX9_reading 42 = .ok (.getfield 21, 3) := by decide +kernel
theorem dX9_reading_45 : decode cX9_reading 45 = .ok (.getfield 167, 3) := by decide +kernel
theorem dX9_reading_48 : decode cX9_reading 48 = .ok (.bipush 10, 2) := by decide +kernel
theorem dX9_reading_50 : decode cX9_reading 50 = .ok (.if_icmp .lt 8, 3) := by decide +kernel
theorem dX9_reading_53 : decode cX9_reading 53 = .ok (.bipush (-4), 2) := by decide +kernel
theorem dX9_reading_55 : decode cX9_reading 55 = .ok (.goto 15, 3) := by decide +kernel
theorem dX9_reading_58 : decode cX9_reading 58 = .ok (.aload_n 0, 1) := by decide +kernel
theorem dX9_reading_59 : decode cX9_reading 59 = .ok (.getfield 21, 3) := by decide +kernel
theorem dX9_reading_62 : decode cX9_reading 62 = .ok (.iload_n 1, 1) := by decide +kernel
theorem dX9_reading_63 : decode cX9_reading 63 = .ok (.iload_n 2, 1) := by decide +kernel
theorem dX9_reading_64 : decode cX9_reading 64 = .ok (.iload_n 3, 1) := by decide +kernel
theorem dX9_reading_65 : decode cX9_reading 65 = .ok (.iload 4, 2) := by decide +kernel
theorem dX9_reading_67 : decode cX9_reading 67 = .ok (.invokevirtual 168, 3) := by decide +kernel
theorem dX9_reading_70 : decode cX9_reading 70 = .ok (.ireturn, 1) := by decide +kernel
theorem dX9_back_0 : decode cX9_back 0 = .ok (.iload_n 1, 1) := by decide +kernel
theorem dX9_back_1 : decode cX9_back 1 = .ok (.aload_n 0, 1) := by decide +kernel
theorem dX9_back_2 : decode cX9_back 2 = .ok (.getfield 21, 3) := by decide +kernel
theorem dX9_back_5 : decode cX9_back 5 = .ok (.getfield 167, 3) := by decide +kernel
theorem dX9_back_8 : decode cX9_back 8 = .ok (.invokestatic 47, 3) := by decide +kernel
theorem dX9_back_11 : decode cX9_back 11 = .ok (.ifCond .ne 6, 3) := by decide +kernel
theorem dX9_back_14 : decode cX9_back 14 = .ok (.bipush (-2), 2) := by decide +kernel
theorem dX9_back_16 : decode cX9_back 16 = .ok (.ireturn, 1) := by decide +kernel
theorem dX9_back_17 : decode cX9_back 17 = .ok (.aload_n 0, 1) := by decide +kernel
theorem dX9_back_18 : decode cX9_back 18 = .ok (.getfield 21, 3) := by decide +kernel
theorem dX9_back_21 : decode cX9_back 21 = .ok (.dup, 1) := by decide +kernel
theorem dX9_back_22 : decode cX9_back 22 = .ok (.getfield 167, 3) := by decide +kernel
theorem dX9_back_25 : decode cX9_back 25 = .ok (.iload_n 1, 1) := by decide +kernel
theorem dX9_back_26 : decode cX9_back 26 = .ok (.isub, 1) := by decide +kernel
theorem dX9_back_27 : decode cX9_back 27 = .ok (.putfield 167, 3) := by decide +kernel
theorem dX9_back_30 : decode cX9_back 30 = .ok (.aload_n 0, 1) := by decide +kernel
theorem dX9_back_31 : decode cX9_back 31 = .ok (.getfield 21, 3) := by decide +kernel
theorem dX9_back_34 : decode cX9_back 34 = .ok (.getfield 167, 3) := by decide +kernel
theorem dX9_back_37 : decode cX9_back 37 = .ok (.ireturn, 1) := by decide +kernel
theorem dX9_said_0 : decode cX9_said 0 = .ok (.aload_n 0, 1) := by decide +kernel
theorem dX9_said_1 : decode cX9_said 1 = .ok (.getfield 12, 3) := by decide +kernel
theorem dX9_said_4 : decode cX9_said 4 = .ok (.iload_n 1, 1) := by decide +kernel
theorem dX9_said_5 : decode cX9_said 5 = .ok (.invokevirtual 81, 3) := by decide +kernel
theorem dX9_said_8 : decode cX9_said 8 = .ok (.ifCond .ne 5, 3) := by decide +kernel
theorem dX9_said_11 : decode cX9_said 11 = .ok (.iconst (-1), 1) := by decide +kernel
theorem dX9_said_12 : decode cX9_said 12 = .ok (.ireturn, 1) := by decide +kernel
theorem dX9_said_13 : decode cX9_said 13 = .ok (.iload_n 2, 1) := by decide +kernel
theorem dX9_said_14 : decode cX9_said 14 = .ok (.invokestatic 110, 3) := by decide +kernel
theorem dX9_said_17 : decode cX9_said 17 = .ok (.ifCond .eq 10, 3) := by decide +kernel
theorem dX9_said_20 : decode cX9_said 20 = .ok (.iload_n 3, 1) := by decide +kernel
theorem dX9_said_21 : decode cX9_said 21 = .ok (.invokestatic 113, 3) := by decide +kernel
theorem dX9_said_24 : decode cX9_said 24 = .ok (.ifCond .ne 6, 3) := by decide +kernel
theorem dX9_said_27 : decode cX9_said 27 = .ok (.bipush (-2), 2) := by decide +kernel
theorem dX9_said_29 : decode cX9_said 29 = .ok (.ireturn, 1) := by decide +kernel
theorem dX9_said_30 : decode cX9_said 30 = .ok (.iload_n 1, 1) := by decide +kernel
theorem dX9_said_31 : decode cX9_said 31 = .ok (.iload_n 2, 1) := by decide +kernel
theorem dX9_said_32 : decode cX9_said 32 = .ok (.invokestatic 121, 3) := by decide +kernel
theorem dX9_said_35 : decode cX9_said 35 = .ok (.istore 4, 2) := by decide +kernel
theorem dX9_said_37 : decode cX9_said 37 = .ok (.aload_n 0, 1) := by decide +kernel
theorem dX9_said_38 : decode cX9_said 38 = .ok (.getfield 12, 3) := by decide +kernel
theorem dX9_said_41 : decode cX9_said 41 = .ok (.iload 4, 2) := by decide +kernel
theorem dX9_said_43 : decode cX9_said 43 = .ok (.invokevirtual 88, 3) := by decide +kernel
theorem dX9_said_46 : decode cX9_said 46 = .ok (.ifCond .ne 5, 3) := by decide +kernel
theorem dX9_said_49 : decode cX9_said 49 = .ok (.iconst (-1), 1) := by decide +kernel
theorem dX9_said_50 : decode cX9_said 50 = .ok (.ireturn, 1) := by decide +kernel
theorem dX9_said_51 : decode cX9_said 51 = .ok (.iconst 0, 1) := by decide +kernel
theorem dX9_said_52 : decode cX9_said 52 = .ok (.istore 5, 2) := by decide +kernel
theorem dX9_said_54 : decode cX9_said 54 = .ok (.bipush (-3), 2) := by decide +kernel
theorem dX9_said_56 : decode cX9_said 56 = .ok (.istore 6, 2) := by decide +kernel
theorem dX9_said_58 : decode cX9_said 58 = .ok (.iload 6, 2) := by decide +kernel
theorem dX9_said_60 : decode cX9_said 60 = .ok (.iconst 3, 1) := by decide +kernel
theorem dX9_said_61 : decode cX9_said 61 = .ok (.if_icmp .gt 43, 3) := by decide +kernel
theorem dX9_said_64 : decode cX9_said 64 = .ok (.aload_n 0, 1) := by decide +kernel
theorem dX9_said_65 : decode cX9_said 65 = .ok (.getfield 21, 3) := by decide +kernel
theorem dX9_said_68 : decode cX9_said 68 = .ok (.aload_n 0, 1) := by decide +kernel
theorem dX9_said_69 : decode cX9_said 69 = .ok (.getfield 12, 3) := by decide +kernel
theorem dX9_said_72 : decode cX9_said 72 = .ok (.iload 4, 2) := by decide +kernel
theorem dX9_said_74 : decode cX9_said 74 = .ok (.iload_n 2, 1) := by decide +kernel
theorem dX9_said_75 : decode cX9_said 75 = .ok (.invokestatic 125, 3) := by decide +kernel
theorem dX9_said_78 : decode cX9_said 78 = .ok (.iload_n 3, 1) := by decide +kernel
theorem dX9_said_79 : decode cX9_said 79 = .ok (.iload 6, 2) := by decide +kernel
theorem dX9_said_81 : decode cX9_said 81 = .ok (.invokevirtual 171, 3) := by decide +kernel
theorem dX9_said_84 : decode cX9_said 84 = .ok (.ifCond .eq 14, 3) := by decide +kernel
theorem dX9_said_87 : decode cX9_said 87 = .ok (.iload 5, 2) := by decide +kernel
theorem dX9_said_89 : decode cX9_said 89 = .ok (.iconst 1, 1) := by decide +kernel
theorem dX9_said_90 : decode cX9_said 90 = .ok (.iload 6, 2) := by decide +kernel
theorem dX9_said_92 : decode cX9_said 92 = .ok (.iconst 3, 1) := by decide +kernel
theorem dX9_said_93 : decode cX9_said 93 = .ok (.iadd, 1) := by decide +kernel
theorem dX9_said_94 : decode cX9_said 94 = .ok (.ishl, 1) := by decide +kernel
theorem dX9_said_95 : decode cX9_said 95 = .ok (.ior, 1) := by decide +kernel
theorem dX9_said_96 : decode cX9_said 96 = .ok (.istore 5, 2) := by decide +kernel
theorem dX9_said_98 : decode cX9_said 98 = .ok (.iinc 6 1, 3) := by decide +kernel
theorem dX9_said_101 : decode cX9_said 101 = .ok (.goto (-43), 3) := by decide +kernel
theorem dX9_said_104 : decode cX9_said 104 = .ok (.iload 5, 2) := by decide +kernel
theorem dX9_said_106 : decode cX9_said 106 = .ok (.ireturn, 1) := by decide +kernel
theorem dX9_quarrel_0 : decode cX9_quarrel 0 = .ok (.aload_n 0, 1) := by decide +kernel
theorem dX9_quarrel_1 : decode cX9_quarrel 1 = .ok (.getfield 12, 3) := by decide +kernel
theorem dX9_quarrel_4 : decode cX9_quarrel 4 = .ok (.iload_n 1, 1) := by decide +kernel
theorem dX9_quarrel_5 : decode cX9_quarrel 5 = .ok (.invokevirtual 88, 3) := by decide +kernel
theorem dX9_quarrel_8 : decode cX9_quarrel 8 = .ok (.ifCond .ne 5, 3) := by decide +kernel
theorem dX9_quarrel_11 : decode cX9_quarrel 11 = .ok (.iconst (-1), 1) := by decide +kernel
theorem dX9_quarrel_12 : decode cX9_quarrel 12 = .ok (.ireturn, 1) := by decide +kernel
theorem dX9_quarrel_13 : decode cX9_quarrel 13 = .ok (.iload_n 2, 1) := by decide +kernel
theorem dX9_quarrel_14 : decode cX9_quarrel 14 = .ok (.invokestatic 113, 3) := by decide +kernel
theorem dX9_quarrel_17 : decode cX9_quarrel 17 = .ok (.ifCond .eq 23, 3) := by decide +kernel
theorem dX9_quarrel_20 : decode cX9_quarrel 20 = .ok (.iload_n 3, 1) := by decide +kernel
theorem dX9_quarrel_21 : decode cX9_quarrel 21 = .ok (.invokestatic 113, 3) := by decide +kernel
theorem dX9_quarrel_24 : decode cX9_quarrel 24 = .ok (.ifCond .eq 16, 3) := by decide +kernel
theorem dX9_quarrel_27 : decode cX9_quarrel 27 = .ok (.iload_n 3, 1) := by decide +kernel
theorem dX9_quarrel_28 : decode cX9_quarrel 28 = .ok (.iload_n 2, 1) := by decide +kernel
theorem dX9_quarrel_29 : decode cX9_quarrel 29 = .ok (.if_icmp .lt 11, 3) := by decide +kernel
theorem dX9_quarrel_32 : decode cX9_quarrel 32 = .ok (.iload 4, 2) := by decide +kernel
theorem dX9_quarrel_34 : decode cX9_quarrel 34 = .ok (.invokestatic 110, 3) := by decide +kernel
theorem dX9_quarrel_37 : decode cX9_quarrel 37 = .ok (.ifCond .ne 6, 3) := by decide +kernel
theorem dX9_quarrel_40 : decode cX9_quarrel 40 = .ok (.bipush (-2), 2) := by decide +kernel
theorem dX9_quarrel_42 : decode cX9_quarrel 42 = .ok (.ireturn, 1) := by decide +kernel
theorem dX9_quarrel_43 : decode cX9_quarrel 43 = .ok (.aload_n 0, 1) := by decide +kernel
theorem dX9_quarrel_44 : decode cX9_quarrel 44 = .ok (.getfield 12, 3) := by decide +kernel
theorem dX9_quarrel_47 : decode cX9_quarrel 47 = .ok (.iload_n 1, 1) := by decide +kernel
theorem dX9_quarrel_48 : decode cX9_quarrel 48 = .ok (.iload_n 2, 1) := by decide +kernel
theorem dX9_quarrel_49 : decode cX9_quarrel 49 = .ok (.iload_n 3, 1) := by decide +kernel
theorem dX9_quarrel_50 : decode cX9_quarrel 50 = .ok (.iload 4, 2) := by decide +kernel
theorem dX9_quarrel_52 : decode cX9_quarrel 52 = .ok (.invokevirtual 175, 3) := by decide +kernel
theorem dX9_quarrel_55 : decode cX9_quarrel 55 = .ok (.bipush 10, 2) := by decide +kernel
theorem dX9_quarrel_57 : decode cX9_quarrel 57 = .ok (.iadd, 1) := by decide +kernel
theorem dX9_quarrel_58 : decode cX9_quarrel 58 = .ok (.ireturn, 1) := by decide +kernel
theorem dX9_peace_0 : decode cX9_peace 0 = .ok (.iload_n 1, 1) := by decide +kernel
theorem dX9_peace_1 : decode cX9_peace 1 = .ok (.invokestatic 113, 3) := by decide +kernel
theorem dX9_peace_4 : decode cX9_peace 4 = .ok (.ifCond .ne 6, 3) := by decide +kernel
theorem dX9_peace_7 : decode cX9_peace 7 = .ok (.bipush (-2), 2) := by decide +kernel
theorem dX9_peace_9 : decode cX9_peace 9 = .ok (.ireturn, 1) := by decide +kernel
theorem dX9_peace_10 : decode cX9_peace 10 = .ok (.aload_n 0, 1) := by decide +kernel
theorem dX9_peace_11 : decode cX9_peace 11 = .ok (.getfield 12, 3) := by decide +kernel
theorem dX9_peace_14 : decode cX9_peace 14 = .ok (.getfield 78, 3) := by decide +kernel
theorem dX9_peace_17 : decode cX9_peace 17 = .ok (.ifCond .ne 6, 3) := by decide +kernel
theorem dX9_peace_20 : decode cX9_peace 20 = .ok (.bipush (-3), 2) := by decide +kernel
theorem dX9_peace_22 : decode cX9_peace 22 = .ok (.ireturn, 1) := by decide +kernel
theorem dX9_peace_23 : decode cX9_peace 23 = .ok (.iconst 0, 1) := by decide +kernel
theorem dX9_peace_24 : decode cX9_peace 24 = .ok (.istore_n 2, 1) := by decide +kernel
theorem dX9_peace_25 : decode cX9_peace 25 = .ok (.iconst 0, 1) := by decide +kernel
theorem dX9_peace_26 : decode cX9_peace 26 = .ok (.istore_n 3, 1) := by decide +kernel
theorem dX9_peace_27 : decode cX9_peace 27 = .ok (.iload_n 3, 1) := by decide +kernel
theorem dX9_peace_28 : decode cX9_peace 28 = .ok (.aload_n 0, 1) := by decide +kernel
theorem dX9_peace_29 : decode cX9_peace 29 = .ok (.getfield 12, 3) := by decide +kernel
theorem dX9_peace_32 : decode cX9_peace 32 = .ok (.getfield 78, 3) := by decide +kernel
theorem dX9_peace_35 : decode cX9_peace 35 = .ok (.if_icmp .ge 41, 3) := by decide +kernel
theorem dX9_peace_38 : decode cX9_peace 38 = .ok (.aload_n 0, 1) := by decide +kernel
theorem dX9_peace_39 : decode cX9_peace 39 = .ok (.getfield 12, 3) := by decide +kernel
theorem dX9_peace_42 : decode cX9_peace 42 = .ok (.iload_n 3, 1) := by decide +kernel
theorem dX9_peace_43 : decode cX9_peace 43 = .ok (.iconst 0, 1) := by decide +kernel
theorem dX9_peace_44 : decode cX9_peace 44 = .ok (.iload_n 1, 1) := by decide +kernel
theorem dX9_peace_45 : decode cX9_peace 45 = .ok (.invokevirtual 178, 3) := by decide +kernel
theorem dX9_peace_48 : decode cX9_peace 48 = .ok (.ifCond .ne 16, 3) := by decide +kernel
theorem dX9_peace_51 : decode cX9_peace 51 = .ok (.aload_n 0, 1) := by decide +kernel
theorem dX9_peace_52 : decode cX9_peace 52 = .ok (.getfield 12, 3) := by decide +kernel
theorem dX9_peace_55 : decode cX9_peace 55 = .ok (.iload_n 3, 1) := by decide +kernel
theorem dX9_peace_56 : decode cX9_peace 56 = .ok (.iconst 1, 1) := by decide +kernel
theorem dX9_peace_57 : decode cX9_peace 57 = .ok (.iload_n 1, 1) := by decide +kernel
theorem dX9_peace_58 : decode cX9_peace 58 = .ok (.invokevirtual 178, 3) := by decide +kernel
theorem dX9_peace_61 : decode cX9_peace 61 = .ok (.ifCond .eq 9, 3) := by decide +kernel
theorem dX9_peace_64 : decode cX9_peace 64 = .ok (.iload_n 2, 1) := by decide +kernel
theorem dX9_peace_65 : decode cX9_peace 65 = .ok (.iconst 1, 1) := by decide +kernel
theorem dX9_peace_66 : decode cX9_peace 66 = .ok (.iload_n 3, 1) := by decide +kernel
theorem dX9_peace_67 : decode cX9_peace 67 = .ok (.ishl, 1) := by decide +kernel
theorem dX9_peace_68 : decode cX9_peace 68 = .ok (.ior, 1) := by decide +kernel
theorem dX9_peace_69 : decode cX9_peace 69 = .ok (.istore_n 2, 1) := by decide +kernel
theorem dX9_peace_70 : decode cX9_peace 70 = .ok (.iinc 3 1, 3) := by decide +kernel
theorem dX9_peace_73 : decode cX9_peace 73 = .ok (.goto (-46), 3) := by decide +kernel
theorem dX9_peace_76 : decode cX9_peace 76 = .ok (.iload_n 2, 1) := by decide +kernel
theorem dX9_peace_77 : decode cX9_peace 77 = .ok (.ireturn, 1) := by decide +kernel
theorem dX9_round_0 : decode cX9_round 0 = .ok (.iload_n 1, 1) := by decide +kernel
theorem dX9_round_1 : decode cX9_round 1 = .ok (.invokestatic 138, 3) := by decide +kernel
theorem dX9_round_4 : decode cX9_round 4 = .ok (.ifCond .eq 10, 3) := by decide +kernel
theorem dX9_round_7 : decode cX9_round 7 = .ok (.iload_n 2, 1) := by decide +kernel
theorem dX9_round_8 : decode cX9_round 8 = .ok (.invokestatic 132, 3) := by decide +kernel
theorem dX9_round_11 : decode cX9_round 11 = .ok (.ifCond .ne 6, 3) := by decide +kernel
theorem dX9_round_14 : decode cX9_round 14 = .ok (.bipush (-2), 2) := by decide +kernel
theorem dX9_round_16 : decode cX9_round 16 = .ok (.ireturn, 1) := by decide +kernel
theorem dX9_round_17 : decode cX9_round 17 = .ok (.aload_n 0, 1) := by decide +kernel
theorem dX9_round_18 : decode cX9_round 18 = .ok (.getfield 12, 3) := by decide +kernel
theorem dX9_round_21 : decode cX9_round 21 = .ok (.getfield 78, 3) := by decide +kernel
theorem dX9_round_24 : decode cX9_round 24 = .ok (.ifCond .ne 6, 3) := by decide +kernel
theorem dX9_round_27 : decode cX9_round 27 = .ok (.bipush (-3), 2) := by decide +kernel
theorem dX9_round_29 : decode cX9_round 29 = .ok (.ireturn, 1) := by decide +kernel
theorem dX9_round_30 : decode cX9_round 30 = .ok (.aload_n 0, 1) := by decide +kernel
theorem dX9_round_31 : decode cX9_round 31 = .ok (.getfield 12, 3) := by decide +kernel
theorem dX9_round_34 : decode cX9_round 34 = .ok (.iload_n 1, 1) := by decide +kernel
theorem dX9_round_35 : decode cX9_round 35 = .ok (.iload_n 2, 1) := by decide +kernel
theorem dX9_round_36 : decode cX9_round 36 = .ok (.invokevirtual 182, 3) := by decide +kernel
theorem dX9_round_39 : decode cX9_round 39 = .ok (.ireturn, 1) := by decide +kernel
theorem dX9_fines_0 : decode cX9_fines 0 = .ok (.iload_n 1, 1) := by decide +kernel
theorem dX9_fines_1 : decode cX9_fines 1 = .ok (.iconst (-1), 1) := by decide +kernel
theorem dX9_fines_2 : decode cX9_fines 2 = .ok (.if_icmp .eq 16, 3) := by decide +kernel
theorem dX9_fines_5 : decode cX9_fines 5 = .ok (.aload_n 0, 1) := by decide +kernel
theorem dX9_fines_6 : decode cX9_fines 6 = .ok (.getfield 12, 3) := by decide +kernel
theorem dX9_fines_9 : decode cX9_fines 9 = .ok (.iload_n 1, 1) := by decide +kernel
theorem dX9_fines_10 : decode cX9_fines 10 = .ok (.invokevirtual 81, 3) := by decide +kernel
theorem dX9_fines_13 : decode cX9_fines 13 = .ok (.ifCond .ne 5, 3) := by decide +kernel
theorem dX9_fines_16 : decode cX9_fines 16 = .ok (.iconst (-1), 1) := by decide +kernel
theorem dX9_fines_17 : decode cX9_fines 17 = .ok (.ireturn, 1) := by decide +kernel
theorem dX9_fines_18 : decode cX9_fines 18 = .ok (.iload_n 2, 1) := by decide +kernel
theorem dX9_fines_19 : decode cX9_fines 19 = .ok (.invokestatic 132, 3) := by decide +kernel
theorem dX9_fines_22 : decode cX9_fines 22 = .ok (.ifCond .ne 6, 3) := by decide +kernel
theorem dX9_fines_25 : decode cX9_fines 25 = .ok (.bipush (-2), 2) := by decide +kernel
theorem dX9_fines_27 : decode cX9_fines 27 = .ok (.ireturn, 1) := by decide +kernel
theorem dX9_fines_28 : decode cX9_fines 28 = .ok (.iload_n 1, 1) := by decide +kernel
theorem dX9_fines_29 : decode cX9_fines 29 = .ok (.iconst (-1), 1) := by decide +kernel
theorem dX9_fines_30 : decode cX9_fines 30 = .ok (.if_icmp .eq 13, 3) := by decide +kernel
theorem dX9_fines_33 : decode cX9_fines 33 = .ok (.aload_n 0, 1) := by decide +kernel
theorem dX9_fines_34 : decode cX9_fines 34 = .ok (.getfield 12, 3) := by decide +kernel
theorem dX9_fines_37 : decode cX9_fines 37 = .ok (.iload_n 1, 1) := by decide +kernel
theorem dX9_fines_38 : decode cX9_fines 38 = .ok (.iload_n 2, 1) := by decide +kernel
theorem dX9_fines_39 : decode cX9_fines 39 = .ok (.invokevirtual 185, 3) := by decide +kernel
theorem dX9_fines_42 : decode cX9_fines 42 = .ok (.ireturn, 1) := by decide +kernel
theorem dX9_fines_43 : decode cX9_fines 43 = .ok (.iconst 0, 1) := by decide +kernel
theorem dX9_fines_44 : decode cX9_fines 44 = .ok (.istore_n 3, 1) := by decide +kernel
theorem dX9_fines_45 : decode cX9_fines 45 = .ok (.iconst 0, 1) := by decide +kernel
theorem dX9_fines_46 : decode cX9_fines 46 = .ok (.istore 4, 2) := by decide +kernel
theorem dX9_fines_48 : decode cX9_fines 48 = .ok (.iload 4, 2) := by decide +kernel
theorem dX9_fines_50 : decode cX9_fines 50 = .ok (.aload_n 0, 1) := by decide +kernel
theorem dX9_fines_51 : decode cX9_fines 51 = .ok (.getfield 12, 3) := by decide +kernel
theorem dX9_fines_54 : decode cX9_fines 54 = .ok (.getfield 78, 3) := by decide +kernel
theorem dX9_fines_57 : decode cX9_fines 57 = .ok (.if_icmp .ge 22, 3) := by decide +kernel
theorem dX9_fines_60 : decode cX9_fines 60 = .ok (.iload_n 3, 1) := by decide +kernel
theorem dX9_fines_61 : decode cX9_fines 61 = .ok (.aload_n 0, 1) := by decide +kernel
theorem dX9_fines_62 : decode cX9_fines 62 = .ok (.getfield 12, 3) := by decide +kernel
theorem dX9_fines_65 : decode cX9_fines 65 = .ok (.iload 4, 2) := by decide +kernel
theorem dX9_fines_67 : decode cX9_fines 67 = .ok (.iload_n 2, 1) := by decide +kernel
theorem dX9_fines_68 : decode cX9_fines 68 = .ok (.invokevirtual 185, 3) := by decide +kernel
theorem dX9_fines_71 : decode cX9_fines 71 = .ok (.iadd, 1) := by decide +kernel
theorem dX9_fines_72 : decode cX9_fines 72 = .ok (.istore_n 3, 1) := by decide +kernel
theorem dX9_fines_73 : decode cX9_fines 73 = .ok (.iinc 4 1, 3) := by decide +kernel
theorem dX9_fines_76 : decode cX9_fines 76 = .ok (.goto (-28), 3) := by decide +kernel
theorem dX9_fines_79 : decode cX9_fines 79 = .ok (.iload_n 3, 1) := by decide +kernel
theorem dX9_fines_80 : decode cX9_fines 80 = .ok (.ireturn, 1) := by decide +kernel
theorem dX9_mean_0 : decode cX9_mean 0 = .ok (.iload_n 1, 1) := by decide +kernel
theorem dX9_mean_1 : decode cX9_mean 1 = .ok (.invokestatic 138, 3) := by decide +kernel
theorem dX9_mean_4 : decode cX9_mean 4 = .ok (.ifCond .eq 21, 3) := by decide +kernel
theorem dX9_mean_7 : decode cX9_mean 7 = .ok (.iload_n 2, 1) := by decide +kernel
theorem dX9_mean_8 : decode cX9_mean 8 = .ok (.iconst 1, 1) := by decide +kernel
theorem dX9_mean_9 : decode cX9_mean 9 = .ok (.invokestatic 47, 3) := by decide +kernel
theorem dX9_mean_12 : decode cX9_mean 12 = .ok (.ifCond .eq 13, 3) := by decide +kernel
theorem dX9_mean_15 : decode cX9_mean 15 = .ok (.aload_n 0, 1) := by decide +kernel
theorem dX9_mean_16 : decode cX9_mean 16 = .ok (.getfield 12, 3) := by decide +kernel
theorem dX9_mean_19 : decode cX9_mean 19 = .ok (.getfield 78, 3) := by decide +kernel
theorem dX9_mean_22 : decode cX9_mean 22 = .ok (.ifCond .ne 7, 3) := by decide +kernel
theorem dX9_mean_25 : decode cX9_mean 25 = .ok (.ldc2_w 188, 3) := by decide +kernel
theorem dX9_mean_28 : decode cX9_mean 28 = .ok (.lreturn, 1) := by decide +kernel
theorem dX9_mean_29 : decode cX9_mean 29 = .ok (.aload_n 0, 1) := by decide +kernel
theorem dX9_mean_30 : decode cX9_mean 30 = .ok (.getfield 12, 3) := by decide +kernel
theorem dX9_mean_33 : decode cX9_mean 33 = .ok (.iload_n 1, 1) := by decide +kernel
theorem dX9_mean_34 : decode cX9_mean 34 = .ok (.invokevirtual 190, 3) := by decide +kernel
theorem dX9_mean_37 : decode cX9_mean 37 = .ok (.istore_n 3, 1) := by decide +kernel
theorem dX9_mean_38 : decode cX9_mean 38 = .ok (.aload_n 0, 1) := by decide +kernel
theorem dX9_mean_39 : decode cX9_mean 39 = .ok (.getfield 12, 3) := by decide +kernel
theorem dX9_mean_42 : decode cX9_mean 42 = .ok (.getfield 78, 3) := by decide +kernel
theorem dX9_mean_45 : decode cX9_mean 45 = .ok (.iconst 1, 1) := by decide +kernel
theorem dX9_mean_46 : decode cX9_mean 46 = .ok (.isub, 1) := by decide +kernel
theorem dX9_mean_47 : decode cX9_mean 47 = .ok (.istore 4, 2) := by decide +kernel
theorem dX9_mean_49 : decode cX9_mean 49 = .ok (.iload_n 3, 1) := by decide +kernel
theorem dX9_mean_50 : decode cX9_mean 50 = .ok (.iload 4, 2) := by decide +kernel
theorem dX9_mean_52 : decode cX9_mean 52 = .ok (.invokestatic 193, 3) := by decide +kernel
theorem dX9_mean_55 : decode cX9_mean 55 = .ok (.istore 5, 2) := by decide +kernel
theorem dX9_mean_57 : decode cX9_mean 57 = .ok (.iload_n 2, 1) := by decide +kernel
theorem dX9_mean_58 : decode cX9_mean 58 = .ok (.ifCond .ne 7, 3) := by decide +kernel
theorem dX9_mean_61 : decode cX9_mean 61 = .ok (.iload_n 3, 1) := by decide +kernel
theorem dX9_mean_62 : decode cX9_mean 62 = .ok (.goto 5, 3) := by decide +kernel
theorem dX9_mean_65 : decode cX9_mean 65 = .ok (.iload 4, 2) := by decide +kernel
theorem dX9_mean_67 : decode cX9_mean 67 = .ok (.iload 5, 2) := by decide +kernel
theorem dX9_mean_69 : decode cX9_mean 69 = .ok (.idiv, 1) := by decide +kernel
theorem dX9_mean_70 : decode cX9_mean 70 = .ok (.i2l, 1) := by decide +kernel
theorem dX9_mean_71 : decode cX9_mean 71 = .ok (.lreturn, 1) := by decide +kernel
theorem dX9_sheet_0 : decode cX9_sheet 0 = .ok (.aload_n 0, 1) := by decide +kernel
theorem dX9_sheet_1 : decode cX9_sheet 1 = .ok (.iconst 0, 1) := by decide +kernel
theorem dX9_sheet_2 : decode cX9_sheet 2 = .ok (.putfield 38, 3) := by decide +kernel
theorem dX9_sheet_5 : decode cX9_sheet 5 = .ok (.iload_n 1, 1) := by decide +kernel
theorem dX9_sheet_6 : decode cX9_sheet 6 = .ok (.invokestatic 43, 3) := by decide +kernel
theorem dX9_sheet_9 : decode cX9_sheet 9 = .ok (.ifCond .ne 5, 3) := by decide +kernel
theorem dX9_sheet_12 : decode cX9_sheet 12 = .ok (.iconst (-1), 1) := by decide +kernel
theorem dX9_sheet_13 : decode cX9_sheet 13 = .ok (.ireturn, 1) := by decide +kernel
theorem dX9_sheet_14 : decode cX9_sheet 14 = .ok (.iload_n 2, 1) := by decide +kernel
theorem dX9_sheet_15 : decode cX9_sheet 15 = .ok (.iconst 2, 1) := by decide +kernel
theorem dX9_sheet_16 : decode cX9_sheet 16 = .ok (.invokestatic 47, 3) := by decide +kernel
theorem dX9_sheet_19 : decode cX9_sheet 19 = .ok (.ifCond .eq 9, 3) := by decide +kernel
theorem dX9_sheet_22 : decode cX9_sheet 22 = .ok (.iload_n 3, 1) := by decide +kernel
theorem dX9_sheet_23 : decode cX9_sheet 23 = .ok (.bipush 60, 2) := by decide +kernel
theorem dX9_sheet_25 : decode cX9_sheet 25 = .ok (.if_icmp .le 6, 3) := by decide +kernel
theorem dX9_sheet_28 : decode cX9_sheet 28 = .ok (.bipush (-2), 2) := by decide +kernel
theorem dX9_sheet_30 : decode cX9_sheet 30 = .ok (.ireturn, 1) := by decide +kernel
theorem dX9_sheet_31 : decode cX9_sheet 31 = .ok (.iload_n 3, 1) := by decide +kernel
theorem dX9_sheet_32 : decode cX9_sheet 32 = .ok (.ifCond .ge 9, 3) := by decide +kernel
theorem dX9_sheet_35 : decode cX9_sheet 35 = .ok (.aload_n 0, 1) := by decide +kernel
theorem dX9_sheet_36 : decode cX9_sheet 36 = .ok (.iconst 4, 1) := by decide +kernel
theorem dX9_sheet_37 : decode cX9_sheet 37 = .ok (.invokevirtual 54, 3) := by decide +kernel
theorem dX9_sheet_40 : decode cX9_sheet 40 = .ok (.ireturn, 1) := by decide +kernel
theorem dX9_sheet_41 : decode cX9_sheet 41 = .ok (.aload_n 0, 1) := by decide +kernel
theorem dX9_sheet_42 : decode cX9_sheet 42 = .ok (.getfield 34, 3) := by decide +kernel
theorem dX9_sheet_45 : decode cX9_sheet 45 = .ok (.iload_n 1, 1) := by decide +kernel
theorem dX9_sheet_46 : decode cX9_sheet 46 = .ok (.aaload, 1) := by decide +kernel
theorem dX9_sheet_47 : decode cX9_sheet 47 = .ok (.iload_n 2, 1) := by decide +kernel
theorem dX9_sheet_48 : decode cX9_sheet 48 = .ok (.iload_n 3, 1) := by decide +kernel
theorem dX9_sheet_49 : decode cX9_sheet 49 = .ok (.invokevirtual 196, 3) := by decide +kernel
theorem dX9_sheet_52 : decode cX9_sheet 52 = .ok (.iconst 1, 1) := by decide +kernel
theorem dX9_sheet_53 : decode cX9_sheet 53 = .ok (.ireturn, 1) := by decide +kernel
theorem dX9_lose_0 : decode cX9_lose 0 = .ok (.iload_n 1, 1) := by decide +kernel
theorem dX9_lose_1 : decode cX9_lose 1 = .ok (.invokestatic 43, 3) := by decide +kernel
theorem dX9_lose_4 : decode cX9_lose 4 = .ok (.ifCond .ne 5, 3) := by decide +kernel
theorem dX9_lose_7 : decode cX9_lose 7 = .ok (.iconst (-1), 1) := by decide +kernel
theorem dX9_lose_8 : decode cX9_lose 8 = .ok (.ireturn, 1) := by decide +kernel
theorem dX9_lose_9 : decode cX9_lose 9 = .ok (.aload_n 0, 1) := by decide +kernel
theorem dX9_lose_10 : decode cX9_lose 10 = .ok (.getfield 34, 3) := by decide +kernel
theorem dX9_lose_13 : decode cX9_lose 13 = .ok (.iload_n 1, 1) := by decide +kernel
theorem dX9_lose_14 : decode cX9_lose 14 = .ok (.aaload, 1) := by decide +kernel
theorem dX9_lose_15 : decode cX9_lose 15 = .ok (.invokevirtual 58, 3) := by decide +kernel
theorem dX9_lose_18 : decode cX9_lose 18 = .ok (.ifCond .eq 5, 3) := by decide +kernel
theorem dX9_lose_21 : decode cX9_lose 21 = .ok (.iconst 0, 1) := by decide +kernel
theorem dX9_lose_22 : decode cX9_lose 22 = .ok (.ireturn, 1) := by decide +kernel
theorem dX9_lose_23 : decode cX9_lose 23 = .ok (.aload_n 0, 1) := by decide +kernel
theorem dX9_lose_24 : decode cX9_lose 24 = .ok (.getfield 34, 3) := by decide +kernel
theorem dX9_lose_27 : decode cX9_lose 27 = .ok (.iload_n 1, 1) := by decide +kernel
theorem dX9_lose_28 : decode cX9_lose 28 = .ok (.aaload, 1) := by decide +kernel
theorem dX9_lose_29 : decode cX9_lose 29 = .ok (.invokevirtual 200, 3) := by decide +kernel
theorem dX9_lose_32 : decode cX9_lose 32 = .ok (.iconst 1, 1) := by decide +kernel
theorem dX9_lose_33 : decode cX9_lose 33 = .ok (.ireturn, 1) := by decide +kernel
theorem dX9_put_0 : decode cX9_put 0 = .ok (.aload_n 0, 1) := by decide +kernel
theorem dX9_put_1 : decode cX9_put 1 = .ok (.iconst 0, 1) := by decide +kernel
theorem dX9_put_2 : decode cX9_put 2 = .ok (.putfield 38, 3) := by decide +kernel
theorem dX9_put_5 : decode cX9_put 5 = .ok (.iload_n 1, 1) := by decide +kernel
theorem dX9_put_6 : decode cX9_put 6 = .ok (.invokestatic 43, 3) := by decide +kernel
theorem dX9_put_9 : decode cX9_put 9 = .ok (.ifCond .ne 5, 3) := by decide +kernel
theorem dX9_put_12 : decode cX9_put 12 = .ok (.iconst (-1), 1) := by decide +kernel
theorem dX9_put_13 : decode cX9_put 13 = .ok (.ireturn, 1) := by decide +kernel
theorem dX9_put_14 : decode cX9_put 14 = .ok (.aload_n 0, 1) := by decide +kernel
theorem dX9_put_15 : decode cX9_put 15 = .ok (.getfield 34, 3) := by decide +kernel
theorem dX9_put_18 : decode cX9_put 18 = .ok (.iload_n 1, 1) := by decide +kernel
theorem dX9_put_19 : decode cX9_put 19 = .ok (.aaload, 1) := by decide +kernel
theorem dX9_put_20 : decode cX9_put 20 = .ok (.invokevirtual 58, 3) := by decide +kernel
theorem dX9_put_23 : decode cX9_put 23 = .ok (.ifCond .eq 9, 3) := by decide +kernel
theorem dX9_put_26 : decode cX9_put 26 = .ok (.aload_n 0, 1) := by decide +kernel
theorem dX9_put_27 : decode cX9_put 27 = .ok (.iconst 1, 1) := by decide +kernel
theorem dX9_put_28 : decode cX9_put 28 = .ok (.invokevirtual 54, 3) := by decide +kernel
theorem dX9_put_31 : decode cX9_put 31 = .ok (.ireturn, 1) := by decide +kernel
theorem dX9_put_32 : decode cX9_put 32 = .ok (.aload_n 0, 1) := by decide +kernel
theorem dX9_put_33 : decode cX9_put 33 = .ok (.getfield 34, 3) := by decide +kernel
theorem dX9_put_36 : decode cX9_put 36 = .ok (.iload_n 1, 1) := by decide +kernel
theorem dX9_put_37 : decode cX9_put 37 = .ok (.aaload, 1) := by decide +kernel
theorem dX9_put_38 : decode cX9_put 38 = .ok (.iload_n 2, 1) := by decide +kernel
theorem dX9_put_39 : decode cX9_put 39 = .ok (.invokevirtual 203, 3) := by decide +kernel
theorem dX9_put_42 : decode cX9_put 42 = .ok (.ifCond .ne 9, 3) := by decide +kernel
theorem dX9_put_45 : decode cX9_put 45 = .ok (.aload_n 0, 1) := by decide +kernel
theorem dX9_put_46 : decode cX9_put 46 = .ok (.iconst 3, 1) := by decide +kernel
theorem dX9_put_47 : decode cX9_put 47 = .ok (.invokevirtual 54, 3) := by decide +kernel
theorem dX9_put_50 : decode cX9_put 50 = .ok (.ireturn, 1) := by decide +kernel
theorem dX9_put_51 : decode cX9_put 51 = .ok (.aload_n 0, 1) := by decide +kernel
theorem dX9_put_52 : decode cX9_put 52 = .ok (.getfield 34, 3) := by decide +kernel
theorem dX9_put_55 : decode cX9_put 55 = .ok (.iload_n 1, 1) := by decide +kernel
theorem dX9_put_56 : decode cX9_put 56 = .ok (.aaload, 1) := by decide +kernel
theorem dX9_put_57 : decode cX9_put 57 = .ok (.iload_n 2, 1) := by decide +kernel
theorem dX9_put_58 : decode cX9_put 58 = .ok (.iload_n 3, 1) := by decide +kernel
theorem dX9_put_59 : decode cX9_put 59 = .ok (.invokevirtual 206, 3) := by decide +kernel
theorem dX9_put_62 : decode cX9_put 62 = .ok (.iconst 1, 1) := by decide +kernel
theorem dX9_put_63 : decode cX9_put 63 = .ok (.ireturn, 1) := by decide +kernel
theorem dX9_cell_0 : decode cX9_cell 0 = .ok (.aload_n 0, 1) := by decide +kernel
theorem dX9_cell_1 : decode cX9_cell 1 = .ok (.iconst 0, 1) := by decide +kernel
theorem dX9_cell_2 : decode cX9_cell 2 = .ok (.putfield 38, 3) := by decide +kernel
theorem dX9_cell_5 : decode cX9_cell 5 = .ok (.iload_n 1, 1) := by decide +kernel
theorem dX9_cell_6 : decode cX9_cell 6 = .ok (.invokestatic 43, 3) := by decide +kernel
theorem dX9_cell_9 : decode cX9_cell 9 = .ok (.ifCond .eq 11, 3) := by decide +kernel
theorem dX9_cell_12 : decode cX9_cell 12 = .ok (.iload_n 3, 1) := by decide +kernel
theorem dX9_cell_13 : decode cX9_cell 13 = .ok (.iconst 2, 1) := by decide +kernel
theorem dX9_cell_14 : decode cX9_cell 14 = .ok (.invokestatic 47, 3) := by decide +kernel
theorem dX9_cell_17 : decode cX9_cell 17 = .ok (.ifCond .ne 7, 3) := by decide +kernel
theorem dX9_cell_20 : decode cX9_cell 20 = .ok (.ldc2_w 188, 3) := by decide +kernel
theorem dX9_cell_23 : decode cX9_cell 23 = .ok (.lreturn, 1) := by decide +kernel
theorem dX9_cell_24 : decode cX9_cell 24 = .ok (.aload_n 0, 1) := by decide +kernel
theorem dX9_cell_25 : decode cX9_cell 25 = .ok (.getfield 34, 3) := by decide +kernel
theorem dX9_cell_28 : decode cX9_cell 28 = .ok (.iload_n 1, 1) := by decide +kernel
theorem dX9_cell_29 : decode cX9_cell 29 = .ok (.aaload, 1) := by decide +kernel
theorem dX9_cell_30 : decode cX9_cell 30 = .ok (.astore 4, 2) := by decide +kernel
theorem dX9_cell_32 : decode cX9_cell 32 = .ok (.aload 4, 2) := by decide +kernel
theorem dX9_cell_34 : decode cX9_cell 34 = .ok (.iload_n 3, 1) := by decide +kernel
theorem dX9_cell_35 : decode cX9_cell 35 = .ok (.invokevirtual 51, 3) := by decide +kernel
theorem dX9_cell_38 : decode cX9_cell 38 = .ok (.ifCond .eq 9, 3) := by decide +kernel
theorem dX9_cell_41 : decode cX9_cell 41 = .ok (.aload_n 0, 1) := by decide +kernel
theorem dX9_cell_42 : decode cX9_cell 42 = .ok (.iconst 2, 1) := by decide +kernel
theorem dX9_cell_43 : decode cX9_cell 43 = .ok (.invokevirtual 209, 3) := by decide +kernel
theorem dX9_cell_46 : decode cX9_cell 46 = .ok (.lreturn, 1) := by decide +kernel
theorem dX9_cell_47 : decode cX9_cell 47 = .ok (.aload 4, 2) := by decide +kernel
theorem dX9_cell_49 : decode cX9_cell 49 = .ok (.invokevirtual 58, 3) := by decide +kernel
theorem dX9_cell_52 : decode cX9_cell 52 = .ok (.ifCond .eq 9, 3) := by decide +kernel
theorem dX9_cell_55 : decode cX9_cell 55 = .ok (.aload_n 0, 1) := by decide +kernel
theorem dX9_cell_56 : decode cX9_cell 56 = .ok (.iconst 1, 1) := by decide +kernel
theorem dX9_cell_57 : decode cX9_cell 57 = .ok (.invokevirtual 209, 3) := by decide +kernel
theorem dX9_cell_60 : decode cX9_cell 60 = .ok (.lreturn, 1) := by decide +kernel
theorem dX9_cell_61 : decode cX9_cell 61 = .ok (.aload 4, 2) := by decide +kernel
theorem dX9_cell_63 : decode cX9_cell 63 = .ok (.iload_n 2, 1) := by decide +kernel
theorem dX9_cell_64 : decode cX9_cell 64 = .ok (.invokevirtual 203, 3) := by decide +kernel
theorem dX9_cell_67 : decode cX9_cell 67 = .ok (.ifCond .ne 9, 3) := by decide +kernel
theorem dX9_cell_70 : decode cX9_cell 70 = .ok (.aload_n 0, 1) := by decide +kernel
theorem dX9_cell_71 : decode cX9_cell 71 = .ok (.iconst 3, 1) := by decide +kernel
theorem dX9_cell_72 : decode cX9_cell 72 = .ok (.invokevirtual 209, 3) := by decide +kernel
theorem dX9_cell_75 : decode cX9_cell 75 = .ok (.lreturn, 1) := by decide +kernel
theorem dX9_cell_76 : decode cX9_cell 76 = .ok (.aload 4, 2) := by decide +kernel
theorem dX9_cell_78 : decode cX9_cell 78 = .ok (.getfield 213, 3) := by decide +kernel
theorem dX9_cell_81 : decode cX9_cell 81 = .ok (.iload_n 2, 1) := by decide +kernel
theorem dX9_cell_82 : decode cX9_cell 82 = .ok (.iaload, 1) := by decide +kernel
theorem dX9_cell_83 : decode cX9_cell 83 = .ok (.i2l, 1) := by decide +kernel
theorem dX9_cell_84 : decode cX9_cell 84 = .ok (.lreturn, 1) := by decide +kernel
theorem dX9_copy_0 : decode cX9_copy 0 = .ok (.aload_n 0, 1) := by decide +kernel
theorem dX9_copy_1 : decode cX9_copy 1 = .ok (.iconst 0, 1) := by decide +kernel
theorem dX9_copy_2 : decode cX9_copy 2 = .ok (.putfield 38, 3) := by decide +kernel
theorem dX9_copy_5 : decode cX9_copy 5 = .ok (.iload_n 1, 1) := by decide +kernel
theorem dX9_copy_6 : decode cX9_copy 6 = .ok (.invokestatic 43, 3) := by decide +kernel
theorem dX9_copy_9 : decode cX9_copy 9 = .ok (.ifCond .eq 10, 3) := by decide +kernel
theorem dX9_copy_12 : decode cX9_copy 12 = .ok (.iload_n 3, 1) := by decide +kernel
theorem dX9_copy_13 : decode cX9_copy 13 = .ok (.invokestatic 43, 3) := by decide +kernel
theorem dX9_copy_16 : decode cX9_copy 16 = .ok (.ifCond .ne 5, 3) := by decide +kernel
theorem dX9_copy_19 : decode cX9_copy 19 = .ok (.iconst (-1), 1) := by decide +kernel
theorem dX9_copy_20 : decode cX9_copy 20 = .ok (.ireturn, 1) := by decide +kernel
theorem dX9_copy_21 : decode cX9_copy 21 = .ok (.aload_n 0, 1) := by decide +kernel
theorem dX9_copy_22 : decode cX9_copy 22 = .ok (.getfield 34, 3) := by decide +kernel
theorem dX9_copy_25 : decode cX9_copy 25 = .ok (.iload_n 1, 1) := by decide +kernel
theorem dX9_copy_26 : decode cX9_copy 26 = .ok (.aaload, 1) := by decide +kernel
theorem dX9_copy_27 : decode cX9_copy 27 = .ok (.astore 6, 2) := by decide +kernel
theorem dX9_copy_29 : decode cX9_copy 29 = .ok (.aload_n 0, 1) := by decide +kernel
theorem dX9_copy_30 : decode cX9_copy 30 = .ok (.getfield 34, 3) := by decide +kernel
theorem dX9_copy_33 : decode cX9_copy 33 = .ok (.iload_n 3, 1) := by decide +kernel
theorem dX9_copy_34 : decode cX9_copy 34 = .ok (.aaload, 1) := by decide +kernel
theorem dX9_copy_35 : decode cX9_copy 35 = .ok (.astore 7, 2) := by decide +kernel
theorem dX9_copy_37 : decode cX9_copy 37 = .ok (.aload 6, 2) := by decide +kernel
theorem dX9_copy_39 : decode cX9_copy 39 = .ok (.invokevirtual 58, 3) := by decide +kernel
theorem dX9_copy_42 : decode cX9_copy 42 = .ok (.ifCond .ne 11, 3) := by decide +kernel
theorem dX9_copy_45 : decode cX9_copy 45 = .ok (.aload 7, 2) := by decide +kernel
theorem dX9_copy_47 : decode cX9_copy 47 = .ok (.invokevirtual 58, 3) := by decide +kernel
theorem dX9_copy_50 : decode cX9_copy 50 = .ok (.ifCond .eq 9, 3) := by decide +kernel
theorem dX9_copy_53 : decode cX9_copy 53 = .ok (.aload_n 0, 1) := by decide +kernel
theorem dX9_copy_54 : decode cX9_copy 54 = .ok (.iconst 1, 1) := by decide +kernel
theorem dX9_copy_55 : decode cX9_copy 55 = .ok (.invokevirtual 54, 3) := by decide +kernel
theorem dX9_copy_58 : decode cX9_copy 58 = .ok (.ireturn, 1) := by decide +kernel
theorem dX9_copy_59 : decode cX9_copy 59 = .ok (.aload 6, 2) := by decide +kernel
theorem dX9_copy_61 : decode cX9_copy 61 = .ok (.aload 7, 2) := by decide +kernel
theorem dX9_copy_63 : decode cX9_copy 63 = .ok (.getfield 216, 3) := by decide +kernel
theorem dX9_copy_66 : decode cX9_copy 66 = .ok (.invokevirtual 51, 3) := by decide +kernel
theorem dX9_copy_69 : decode cX9_copy 69 = .ok (.ifCond .eq 9, 3) := by decide +kernel
theorem dX9_copy_72 : decode cX9_copy 72 = .ok (.aload_n 0, 1) := by decide +kernel
theorem dX9_copy_73 : decode cX9_copy 73 = .ok (.iconst 2, 1) := by decide +kernel
theorem dX9_copy_74 : decode cX9_copy 74 = .ok (.invokevirtual 54, 3) := by decide +kernel
theorem dX9_copy_77 : decode cX9_copy 77 = .ok (.ireturn, 1) := by decide +kernel
theorem dX9_copy_78 : decode cX9_copy 78 = .ok (.aload 6, 2) := by decide +kernel
theorem dX9_copy_80 : decode cX9_copy 80 = .ok (.iload_n 2, 1) := by decide +kernel
theorem dX9_copy_81 : decode cX9_copy 81 = .ok (.iload 5, 2) := by decide +kernel
theorem dX9_copy_83 : decode cX9_copy 83 = .ok (.invokevirtual 62, 3) := by decide +kernel
theorem dX9_copy_86 : decode cX9_copy 86 = .ok (.ifCond .eq 15, 3) := by decide +kernel
theorem dX9_copy_89 : decode cX9_copy 89 = .ok (.aload 7, 2) := by decide +kernel
theorem dX9_copy_91 : decode cX9_copy 91 = .ok (.iload 4, 2) := by decide +kernel
theorem dX9_copy_93 : decode cX9_copy 93 = .ok (.iload 5, 2) := by decide +kernel
theorem dX9_copy_95 : decode cX9_copy 95 = .ok (.invokevirtual 62, 3) := by decide +kernel
theorem dX9_copy_98 : decode cX9_copy 98 = .ok (.ifCond .ne 9, 3) := by decide +kernel
theorem dX9_copy_101 : decode cX9_copy 101 = .ok (.aload_n 0, 1) := by decide +kernel
theorem dX9_copy_102 : decode cX9_copy 102 = .ok (.iconst 3, 1) := by decide +kernel
theorem dX9_copy_103 : decode cX9_copy 103 = .ok (.invokevirtual 54, 3) := by decide +kernel
theorem dX9_copy_106 : decode cX9_copy 106 = .ok (.ireturn, 1) := by decide +kernel
theorem dX9_copy_107 : decode cX9_copy 107 = .ok (.aload 6, 2) := by decide +kernel
theorem dX9_copy_109 : decode cX9_copy 109 = .ok (.getfield 213, 3) := by decide +kernel
theorem dX9_copy_112 : decode cX9_copy 112 = .ok (.iload_n 2, 1) := by decide +kernel
theorem dX9_copy_113 : decode cX9_copy 113 = .ok (.aload 7, 2) := by decide +kernel
theorem dX9_copy_115 : decode cX9_copy 115 = .ok (.getfield 213, 3) := by decide +kernel
theorem dX9_copy_118 : decode cX9_copy 118 = .ok (.iload 4, 2) := by decide +kernel
theorem dX9_copy_120 : decode cX9_copy 120 = .ok (.iload 5, 2) := by decide +kernel
theorem dX9_copy_122 : decode cX9_copy 122 = .ok (.invokestatic 219, 3) := by decide +kernel
theorem dX9_copy_125 : decode cX9_copy 125 = .ok (.iload 5, 2) := by decide +kernel
theorem dX9_copy_127 : decode cX9_copy 127 = .ok (.ireturn, 1) := by decide +kernel
theorem dX9_tell_0 : decode cX9_tell 0 = .ok (.aload_n 0, 1) := by decide +kernel
theorem dX9_tell_1 : decode cX9_tell 1 = .ok (.getfield 12, 3) := by decide +kernel
theorem dX9_tell_4 : decode cX9_tell 4 = .ok (.iload_n 1, 1) := by decide +kernel
theorem dX9_tell_5 : decode cX9_tell 5 = .ok (.invokevirtual 88, 3) := by decide +kernel
theorem dX9_tell_8 : decode cX9_tell 8 = .ok (.ifCond .eq 25, 3) := by decide +kernel
theorem dX9_tell_11 : decode cX9_tell 11 = .ok (.aload_n 0, 1) := by decide +kernel
theorem dX9_tell_12 : decode cX9_tell 12 = .ok (.getfield 12, 3) := by decide +kernel
theorem dX9_tell_15 : decode cX9_tell 15 = .ok (.getfield 91, 3) := by decide +kernel
theorem dX9_tell_18 : decode cX9_tell 18 = .ok (.iload_n 1, 1) := by decide +kernel
theorem dX9_tell_19 : decode cX9_tell 19 = .ok (.aaload, 1) := by decide +kernel
theorem dX9_tell_20 : decode cX9_tell 20 = .ok (.getfield 95, 3) := by decide +kernel
theorem dX9_tell_23 : decode cX9_tell 23 = .ok (.aload_n 0, 1) := by decide +kernel
theorem dX9_tell_24 : decode cX9_tell 24 = .ok (.getfield 28, 3) := by decide +kernel
theorem dX9_tell_27 : decode cX9_tell 27 = .ok (.invokevirtual 225, 3) := by decide +kernel
theorem dX9_tell_30 : decode cX9_tell 30 = .ok (.goto 4, 3) := by decide +kernel
theorem dX9_tell_33 : decode cX9_tell 33 = .ok (.iconst (-1), 1) := by decide +kernel
theorem dX9_tell_34 : decode cX9_tell 34 = .ok (.ireturn, 1) := by decide +kernel
theorem dX9_lean_0 : decode cX9_lean 0 = .ok (.aload_n 0, 1) := by decide +kernel
theorem dX9_lean_1 : decode cX9_lean 1 = .ok (.getfield 12, 3) := by decide +kernel
theorem dX9_lean_4 : decode cX9_lean 4 = .ok (.iload_n 1, 1) := by decide +kernel
theorem dX9_lean_5 : decode cX9_lean 5 = .ok (.invokevirtual 88, 3) := by decide +kernel
theorem dX9_lean_8 : decode cX9_lean 8 = .ok (.ifCond .eq 25, 3) := by decide +kernel
theorem dX9_lean_11 : decode cX9_lean 11 = .ok (.aload_n 0, 1) := by decide +kernel
theorem dX9_lean_12 : decode cX9_lean 12 = .ok (.getfield 12, 3) := by decide +kernel
theorem dX9_lean_15 : decode cX9_lean 15 = .ok (.getfield 91, 3) := by decide +kernel
theorem dX9_lean_18 : decode cX9_lean 18 = .ok (.iload_n 1, 1) := by decide +kernel
theorem dX9_lean_19 : decode cX9_lean 19 = .ok (.aaload, 1) := by decide +kernel
theorem dX9_lean_20 : decode cX9_lean 20 = .ok (.getfield 95, 3) := by decide +kernel
theorem dX9_lean_23 : decode cX9_lean 23 = .ok (.aload_n 0, 1) := by decide +kernel
theorem dX9_lean_24 : decode cX9_lean 24 = .ok (.getfield 28, 3) := by decide +kernel
theorem dX9_lean_27 : decode cX9_lean 27 = .ok (.invokevirtual 229, 3) := by decide +kernel
theorem dX9_lean_30 : decode cX9_lean 30 = .ok (.goto 4, 3) := by decide +kernel
theorem dX9_lean_33 : decode cX9_lean 33 = .ok (.iconst (-1), 1) := by decide +kernel
theorem dX9_lean_34 : decode cX9_lean 34 = .ok (.ireturn, 1) := by decide +kernel
theorem dX9_as_0 : decode cX9_as 0 = .ok (.aload_n 0, 1) := by decide +kernel
theorem dX9_as_1 : decode cX9_as 1 = .ok (.iconst 0, 1) := by decide +kernel
theorem dX9_as_2 : decode cX9_as 2 = .ok (.putfield 38, 3) := by decide +kernel
theorem dX9_as_5 : decode cX9_as 5 = .ok (.aload_n 0, 1) := by decide +kernel
theorem dX9_as_6 : decode cX9_as 6 = .ok (.getfield 12, 3) := by decide +kernel
theorem dX9_as_9 : decode cX9_as 9 = .ok (.iload_n 1, 1) := by decide +kernel
theorem dX9_as_10 : decode cX9_as 10 = .ok (.invokevirtual 88, 3) := by decide +kernel
theorem dX9_as_13 : decode cX9_as 13 = .ok (.ifCond .ne 5, 3) := by decide +kernel
theorem dX9_as_16 : decode cX9_as 16 = .ok (.iconst (-1), 1) := by decide +kernel
theorem dX9_as_17 : decode cX9_as 17 = .ok (.ireturn, 1) := by decide +kernel
theorem dX9_as_18 : decode cX9_as 18 = .ok (.iload_n 2, 1) := by decide +kernel
theorem dX9_as_19 : decode cX9_as 19 = .ok (.iconst 2, 1) := by decide +kernel

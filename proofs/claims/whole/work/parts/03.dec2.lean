theorem dX9_as_20 : decode cX9_as 20 = .ok (.invokestatic 47, 3) := by decide +kernel
theorem dX9_as_23 : decode cX9_as 23 = .ok (.ifCond .ne 6, 3) := by decide +kernel
theorem dX9_as_26 : decode cX9_as 26 = .ok (.bipush (-2), 2) := by decide +kernel
theorem dX9_as_28 : decode cX9_as 28 = .ok (.ireturn, 1) := by decide +kernel
theorem dX9_as_29 : decode cX9_as 29 = .ok (.aload_n 0, 1) := by decide +kernel
theorem dX9_as_30 : decode cX9_as 30 = .ok (.getfield 12, 3) := by decide +kernel
theorem dX9_as_33 : decode cX9_as 33 = .ok (.getfield 91, 3) := by decide +kernel
theorem dX9_as_36 : decode cX9_as 36 = .ok (.iload_n 1, 1) := by decide +kernel
theorem dX9_as_37 : decode cX9_as 37 = .ok (.aaload, 1) := by decide +kernel
theorem dX9_as_38 : decode cX9_as 38 = .ok (.getfield 95, 3) := by decide +kernel
theorem dX9_as_41 : decode cX9_as 41 = .ok (.invokevirtual 101, 3) := by decide +kernel
theorem dX9_as_44 : decode cX9_as 44 = .ok (.iload_n 2, 1) := by decide +kernel
theorem dX9_as_45 : decode cX9_as 45 = .ok (.if_icmp .lt 7, 3) := by decide +kernel
theorem dX9_as_48 : decode cX9_as 48 = .ok (.iconst 1, 1) := by decide +kernel
theorem dX9_as_49 : decode cX9_as 49 = .ok (.goto 8, 3) := by decide +kernel
theorem dX9_as_52 : decode cX9_as 52 = .ok (.aload_n 0, 1) := by decide +kernel
theorem dX9_as_53 : decode cX9_as 53 = .ok (.iconst 2, 1) := by decide +kernel
theorem dX9_as_54 : decode cX9_as 54 = .ok (.invokevirtual 54, 3) := by decide +kernel
theorem dX9_as_57 : decode cX9_as 57 = .ok (.ireturn, 1) := by decide +kernel
theorem dX9_trace_0 : decode cX9_trace 0 = .ok (.aload_n 0, 1) := by decide +kernel
theorem dX9_trace_1 : decode cX9_trace 1 = .ok (.getfield 28, 3) := by decide +kernel
theorem dX9_trace_4 : decode cX9_trace 4 = .ok (.getfield 232, 3) := by decide +kernel
theorem dX9_trace_7 : decode cX9_trace 7 = .ok (.ireturn, 1) := by decide +kernel
theorem dX9_fault_0 : decode cX9_fault 0 = .ok (.aload_n 0, 1) := by decide +kernel
theorem dX9_fault_1 : decode cX9_fault 1 = .ok (.getfield 38, 3) := by decide +kernel
theorem dX9_fault_4 : decode cX9_fault 4 = .ok (.ireturn, 1) := by decide +kernel
theorem dX9_many_0 : decode cX9_many 0 = .ok (.iload_n 1, 1) := by decide +kernel
theorem dX9_many_1 : decode cX9_many 1 = .ok (.tableswitch 57 0 2 #[27, 35, 49], 27) := by decide +kernel
theorem dX9_many_28 : decode cX9_many 28 = .ok (.aload_n 0, 1) := by decide +kernel
theorem dX9_many_29 : decode cX9_many 29 = .ok (.getfield 12, 3) := by decide +kernel
theorem dX9_many_32 : decode cX9_many 32 = .ok (.getfield 78, 3) := by decide +kernel
theorem dX9_many_35 : decode cX9_many 35 = .ok (.ireturn, 1) := by decide +kernel
theorem dX9_many_36 : decode cX9_many 36 = .ok (.iconst 0, 1) := by decide +kernel
theorem dX9_many_37 : decode cX9_many 37 = .ok (.aload_n 0, 1) := by decide +kernel
theorem dX9_many_38 : decode cX9_many 38 = .ok (.getfield 12, 3) := by decide +kernel
theorem dX9_many_41 : decode cX9_many 41 = .ok (.getfield 78, 3) := by decide +kernel
theorem dX9_many_44 : decode cX9_many 44 = .ok (.iconst 1, 1) := by decide +kernel
theorem dX9_many_45 : decode cX9_many 45 = .ok (.isub, 1) := by decide +kernel
theorem dX9_many_46 : decode cX9_many 46 = .ok (.invokestatic 235, 3) := by decide +kernel
theorem dX9_many_49 : decode cX9_many 49 = .ok (.ireturn, 1) := by decide +kernel
theorem dX9_many_50 : decode cX9_many 50 = .ok (.aload_n 0, 1) := by decide +kernel
theorem dX9_many_51 : decode cX9_many 51 = .ok (.getfield 21, 3) := by decide +kernel
theorem dX9_many_54 : decode cX9_many 54 = .ok (.getfield 167, 3) := by decide +kernel
theorem dX9_many_57 : decode cX9_many 57 = .ok (.ireturn, 1) := by decide +kernel
theorem dX9_many_58 : decode cX9_many 58 = .ok (.bipush (-2), 2) := by decide +kernel
theorem dX9_many_60 : decode cX9_many 60 = .ok (.ireturn, 1) := by decide +kernel
theorem dX9_faulted_0 : decode cX9_faulted 0 = .ok (.aload_n 0, 1) := by decide +kernel
theorem dX9_faulted_1 : decode cX9_faulted 1 = .ok (.iload_n 1, 1) := by decide +kernel
theorem dX9_faulted_2 : decode cX9_faulted 2 = .ok (.putfield 38, 3) := by decide +kernel
theorem dX9_faulted_5 : decode cX9_faulted 5 = .ok (.bipush (-10), 2) := by decide +kernel
theorem dX9_faulted_7 : decode cX9_faulted 7 = .ok (.iload_n 1, 1) := by decide +kernel
theorem dX9_faulted_8 : decode cX9_faulted 8 = .ok (.isub, 1) := by decide +kernel
theorem dX9_faulted_9 : decode cX9_faulted 9 = .ok (.ireturn, 1) := by decide +kernel
theorem dX9_lostBy_0 : decode cX9_lostBy 0 = .ok (.aload_n 0, 1) := by decide +kernel
theorem dX9_lostBy_1 : decode cX9_lostBy 1 = .ok (.iload_n 1, 1) := by decide +kernel
theorem dX9_lostBy_2 : decode cX9_lostBy 2 = .ok (.putfield 38, 3) := by decide +kernel
theorem dX9_lostBy_5 : decode cX9_lostBy 5 = .ok (.ldc2_w 188, 3) := by decide +kernel
theorem dX9_lostBy_8 : decode cX9_lostBy 8 = .ok (.lreturn, 1) := by decide +kernel
theorem dX9_isWithin_0 : decode cX9_isWithin 0 = .ok (.iload_n 0, 1) := by decide +kernel
theorem dX9_isWithin_1 : decode cX9_isWithin 1 = .ok (.ifCond .lt 12, 3) := by decide +kernel
theorem dX9_isWithin_4 : decode cX9_isWithin 4 = .ok (.iload_n 0, 1) := by decide +kernel
theorem dX9_isWithin_5 : decode cX9_isWithin 5 = .ok (.iload_n 1, 1) := by decide +kernel
theorem dX9_isWithin_6 : decode cX9_isWithin 6 = .ok (.if_icmp .gt 7, 3) := by decide +kernel
theorem dX9_isWithin_9 : decode cX9_isWithin 9 = .ok (.iconst 1, 1) := by decide +kernel
theorem dX9_isWithin_10 : decode cX9_isWithin 10 = .ok (.goto 4, 3) := by decide +kernel
theorem dX9_isWithin_13 : decode cX9_isWithin 13 = .ok (.iconst 0, 1) := by decide +kernel
theorem dX9_isWithin_14 : decode cX9_isWithin 14 = .ok (.ireturn, 1) := by decide +kernel
theorem dX9_isSheet_0 : decode cX9_isSheet 0 = .ok (.iload_n 0, 1) := by decide +kernel
theorem dX9_isSheet_1 : decode cX9_isSheet 1 = .ok (.iconst 3, 1) := by decide +kernel
theorem dX9_isSheet_2 : decode cX9_isSheet 2 = .ok (.invokestatic 47, 3) := by decide +kernel
theorem dX9_isSheet_5 : decode cX9_isSheet 5 = .ok (.ireturn, 1) := by decide +kernel
theorem dX9_isSide_0 : decode cX9_isSide 0 = .ok (.iload_n 0, 1) := by decide +kernel
theorem dX9_isSide_1 : decode cX9_isSide 1 = .ok (.iconst 1, 1) := by decide +kernel
theorem dX9_isSide_2 : decode cX9_isSide 2 = .ok (.invokestatic 47, 3) := by decide +kernel
theorem dX9_isSide_5 : decode cX9_isSide 5 = .ok (.ireturn, 1) := by decide +kernel
theorem dX9_isDay_0 : decode cX9_isDay 0 = .ok (.iload_n 0, 1) := by decide +kernel
theorem dX9_isDay_1 : decode cX9_isDay 1 = .ok (.bipush 29, 2) := by decide +kernel
theorem dX9_isDay_3 : decode cX9_isDay 3 = .ok (.invokestatic 47, 3) := by decide +kernel
theorem dX9_isDay_6 : decode cX9_isDay 6 = .ok (.ireturn, 1) := by decide +kernel
theorem dX9_isDawn_0 : decode cX9_isDawn 0 = .ok (.iload_n 0, 1) := by decide +kernel
theorem dX9_isDawn_1 : decode cX9_isDawn 1 = .ok (.bipush 30, 2) := by decide +kernel
theorem dX9_isDawn_3 : decode cX9_isDawn 3 = .ok (.invokestatic 47, 3) := by decide +kernel
theorem dX9_isDawn_6 : decode cX9_isDawn 6 = .ok (.ireturn, 1) := by decide +kernel
theorem dX9_isFeet_0 : decode cX9_isFeet 0 = .ok (.iload_n 0, 1) := by decide +kernel
theorem dX9_isFeet_1 : decode cX9_isFeet 1 = .ok (.bipush 20, 2) := by decide +kernel
theorem dX9_isFeet_3 : decode cX9_isFeet 3 = .ok (.invokestatic 47, 3) := by decide +kernel
theorem dX9_isFeet_6 : decode cX9_isFeet 6 = .ok (.ireturn, 1) := by decide +kernel
theorem dX9_hedgeBeside_0 : decode cX9_hedgeBeside 0 = .ok (.iload_n 1, 1) := by decide +kernel
theorem dX9_hedgeBeside_1 : decode cX9_hedgeBeside 1 = .ok (.ifCond .ne 9, 3) := by decide +kernel
theorem dX9_hedgeBeside_4 : decode cX9_hedgeBeside 4 = .ok (.iload_n 0, 1) := by decide +kernel
theorem dX9_hedgeBeside_5 : decode cX9_hedgeBeside 5 = .ok (.iconst 1, 1) := by decide +kernel
theorem dX9_hedgeBeside_6 : decode cX9_hedgeBeside 6 = .ok (.isub, 1) := by decide +kernel
theorem dX9_hedgeBeside_7 : decode cX9_hedgeBeside 7 = .ok (.goto 4, 3) := by decide +kernel
theorem dX9_hedgeBeside_10 : decode cX9_hedgeBeside 10 = .ok (.iload_n 0, 1) := by decide +kernel
theorem dX9_hedgeBeside_11 : decode cX9_hedgeBeside 11 = .ok (.ireturn, 1) := by decide +kernel
theorem dX9_otherSide_0 : decode cX9_otherSide 0 = .ok (.iload_n 0, 1) := by decide +kernel
theorem dX9_otherSide_1 : decode cX9_otherSide 1 = .ok (.ifCond .ne 7, 3) := by decide +kernel
theorem dX9_otherSide_4 : decode cX9_otherSide 4 = .ok (.iconst 1, 1) := by decide +kernel
theorem dX9_otherSide_5 : decode cX9_otherSide 5 = .ok (.goto 4, 3) := by decide +kernel
theorem dX9_otherSide_8 : decode cX9_otherSide 8 = .ok (.iconst 0, 1) := by decide +kernel
theorem dX9_otherSide_9 : decode cX9_otherSide 9 = .ok (.ireturn, 1) := by decide +kernel
theorem dX9_commonDivisor_0 : decode cX9_commonDivisor 0 = .ok (.iload_n 1, 1) := by decide +kernel
theorem dX9_commonDivisor_1 : decode cX9_commonDivisor 1 = .ok (.istore_n 2, 1) := by decide +kernel
theorem dX9_commonDivisor_2 : decode cX9_commonDivisor 2 = .ok (.iload_n 2, 1) := by decide +kernel
theorem dX9_commonDivisor_3 : decode cX9_commonDivisor 3 = .ok (.iconst 1, 1) := by decide +kernel
theorem dX9_commonDivisor_4 : decode cX9_commonDivisor 4 = .ok (.if_icmp .le 23, 3) := by decide +kernel
theorem dX9_commonDivisor_7 : decode cX9_commonDivisor 7 = .ok (.iload_n 0, 1) := by decide +kernel
theorem dX9_commonDivisor_8 : decode cX9_commonDivisor 8 = .ok (.iload_n 2, 1) := by decide +kernel
theorem dX9_commonDivisor_9 : decode cX9_commonDivisor 9 = .ok (.irem, 1) := by decide +kernel
theorem dX9_commonDivisor_10 : decode cX9_commonDivisor 10 = .ok (.ifCond .ne 11, 3) := by decide +kernel
theorem dX9_commonDivisor_13 : decode cX9_commonDivisor 13 = .ok (.iload_n 1, 1) := by decide +kernel
theorem dX9_commonDivisor_14 : decode cX9_commonDivisor 14 = .ok (.iload_n 2, 1) := by decide +kernel
theorem dX9_commonDivisor_15 : decode cX9_commonDivisor 15 = .ok (.irem, 1) := by decide +kernel
theorem dX9_commonDivisor_16 : decode cX9_commonDivisor 16 = .ok (.ifCond .ne 5, 3) := by decide +kernel
theorem dX9_commonDivisor_19 : decode cX9_commonDivisor 19 = .ok (.iload_n 2, 1) := by decide +kernel
theorem dX9_commonDivisor_20 : decode cX9_commonDivisor 20 = .ok (.ireturn, 1) := by decide +kernel
theorem dX9_commonDivisor_21 : decode cX9_commonDivisor 21 = .ok (.iinc 2 (-1), 3) := by decide +kernel
theorem dX9_commonDivisor_24 : decode cX9_commonDivisor 24 = .ok (.goto (-22), 3) := by decide +kernel
theorem dX9_commonDivisor_27 : decode cX9_commonDivisor 27 = .ok (.iconst 1, 1) := by decide +kernel
theorem dX9_commonDivisor_28 : decode cX9_commonDivisor 28 = .ok (.ireturn, 1) := by decide +kernel
theorem dX10_init_0 : decode cX10_init 0 = .ok (.aload_n 0, 1) := by decide +kernel
theorem dX10_init_1 : decode cX10_init 1 = .ok (.invokespecial 1, 3) := by decide +kernel
theorem dX10_init_4 : decode cX10_init 4 = .ok (.aload_n 0, 1) := by decide +kernel
theorem dX10_init_5 : decode cX10_init 5 = .ok (.bipush 7, 2) := by decide +kernel
theorem dX10_init_7 : decode cX10_init 7 = .ok (.newarray .int, 2) := by decide +kernel
theorem dX10_init_9 : decode cX10_init 9 = .ok (.putfield 7, 3) := by decide +kernel
theorem dX10_init_12 : decode cX10_init 12 = .ok (.aload_n 0, 1) := by decide +kernel
theorem dX10_init_13 : decode cX10_init 13 = .ok (.bipush 6, 2) := by decide +kernel
theorem dX10_init_15 : decode cX10_init 15 = .ok (.newarray .int, 2) := by decide +kernel
theorem dX10_init_17 : decode cX10_init 17 = .ok (.putfield 13, 3) := by decide +kernel
theorem dX10_init_20 : decode cX10_init 20 = .ok (.aload_n 0, 1) := by decide +kernel
theorem dX10_init_21 : decode cX10_init 21 = .ok (.bipush 6, 2) := by decide +kernel
theorem dX10_init_23 : decode cX10_init 23 = .ok (.newarray .int, 2) := by decide +kernel
theorem dX10_init_25 : decode cX10_init 25 = .ok (.putfield 16, 3) := by decide +kernel
theorem dX10_init_28 : decode cX10_init 28 = .ok (.aload_n 0, 1) := by decide +kernel
theorem dX10_init_29 : decode cX10_init 29 = .ok (.sipush 420, 3) := by decide +kernel
theorem dX10_init_32 : decode cX10_init 32 = .ok (.newarray .int, 2) := by decide +kernel
theorem dX10_init_34 : decode cX10_init 34 = .ok (.putfield 19, 3) := by decide +kernel
theorem dX10_init_37 : decode cX10_init 37 = .ok (.aload_n 0, 1) := by decide +kernel
theorem dX10_init_38 : decode cX10_init 38 = .ok (.sipush 180, 3) := by decide +kernel
theorem dX10_init_41 : decode cX10_init 41 = .ok (.newarray .int, 2) := by decide +kernel
theorem dX10_init_43 : decode cX10_init 43 = .ok (.putfield 22, 3) := by decide +kernel
theorem dX10_init_46 : decode cX10_init 46 = .ok (.aload_n 0, 1) := by decide +kernel
theorem dX10_init_47 : decode cX10_init 47 = .ok (.bipush 7, 2) := by decide +kernel
theorem dX10_init_49 : decode cX10_init 49 = .ok (.newarray .int, 2) := by decide +kernel
theorem dX10_init_51 : decode cX10_init 51 = .ok (.putfield 25, 3) := by decide +kernel
theorem dX10_init_54 : decode cX10_init 54 = .ok (.aload_n 0, 1) := by decide +kernel
theorem dX10_init_55 : decode cX10_init 55 = .ok (.bipush 6, 2) := by decide +kernel
theorem dX10_init_57 : decode cX10_init 57 = .ok (.newarray .int, 2) := by decide +kernel
theorem dX10_init_59 : decode cX10_init 59 = .ok (.putfield 28, 3) := by decide +kernel
theorem dX10_init_62 : decode cX10_init 62 = .ok (.aload_n 0, 1) := by decide +kernel
theorem dX10_init_63 : decode cX10_init 63 = .ok (.bipush 6, 2) := by decide +kernel
theorem dX10_init_65 : decode cX10_init 65 = .ok (.newarray .int, 2) := by decide +kernel
theorem dX10_init_67 : decode cX10_init 67 = .ok (.putfield 31, 3) := by decide +kernel
theorem dX10_init_70 : decode cX10_init 70 = .ok (.aload_n 0, 1) := by decide +kernel
theorem dX10_init_71 : decode cX10_init 71 = .ok (.bipush 10, 2) := by decide +kernel
theorem dX10_init_73 : decode cX10_init 73 = .ok (.newarray .int, 2) := by decide +kernel
theorem dX10_init_75 : decode cX10_init 75 = .ok (.putfield 34, 3) := by decide +kernel
theorem dX10_init_78 : decode cX10_init 78 = .ok (.aload_n 0, 1) := by decide +kernel
theorem dX10_init_79 : decode cX10_init 79 = .ok (.bipush 10, 2) := by decide +kernel
theorem dX10_init_81 : decode cX10_init 81 = .ok (.newarray .int, 2) := by decide +kernel
theorem dX10_init_83 : decode cX10_init 83 = .ok (.putfield 37, 3) := by decide +kernel
theorem dX10_init_86 : decode cX10_init 86 = .ok (.aload_n 0, 1) := by decide +kernel
theorem dX10_init_87 : decode cX10_init 87 = .ok (.bipush 10, 2) := by decide +kernel
theorem dX10_init_89 : decode cX10_init 89 = .ok (.newarray .int, 2) := by decide +kernel
theorem dX10_init_91 : decode cX10_init 91 = .ok (.putfield 40, 3) := by decide +kernel
theorem dX10_init_94 : decode cX10_init 94 = .ok (.aload_n 0, 1) := by decide +kernel
theorem dX10_init_95 : decode cX10_init 95 = .ok (.bipush 10, 2) := by decide +kernel
theorem dX10_init_97 : decode cX10_init 97 = .ok (.newarray .int, 2) := by decide +kernel
theorem dX10_init_99 : decode cX10_init 99 = .ok (.putfield 43, 3) := by decide +kernel
theorem dX10_init_102 : decode cX10_init 102 = .ok (.aload_n 0, 1) := by decide +kernel
theorem dX10_init_103 : decode cX10_init 103 = .ok (.bipush 60, 2) := by decide +kernel
theorem dX10_init_105 : decode cX10_init 105 = .ok (.newarray .int, 2) := by decide +kernel
theorem dX10_init_107 : decode cX10_init 107 = .ok (.putfield 46, 3) := by decide +kernel
theorem dX10_init_110 : decode cX10_init 110 = .ok (.aload_n 0, 1) := by decide +kernel
theorem dX10_init_111 : decode cX10_init 111 = .ok (.iconst 4, 1) := by decide +kernel
theorem dX10_init_112 : decode cX10_init 112 = .ok (.newarray .int, 2) := by decide +kernel
theorem dX10_init_114 : decode cX10_init 114 = .ok (.putfield 49, 3) := by decide +kernel
theorem dX10_init_117 : decode cX10_init 117 = .ok (.aload_n 0, 1) := by decide +kernel
theorem dX10_init_118 : decode cX10_init 118 = .ok (.iconst 4, 1) := by decide +kernel
theorem dX10_init_119 : decode cX10_init 119 = .ok (.newarray .int, 2) := by decide +kernel
theorem dX10_init_121 : decode cX10_init 121 = .ok (.putfield 52, 3) := by decide +kernel
theorem dX10_init_124 : decode cX10_init 124 = .ok (.aload_n 0, 1) := by decide +kernel
theorem dX10_init_125 : decode cX10_init 125 = .ok (.sipush 240, 3) := by decide +kernel
theorem dX10_init_128 : decode cX10_init 128 = .ok (.newarray .int, 2) := by decide +kernel
theorem dX10_init_130 : decode cX10_init 130 = .ok (.putfield 55, 3) := by decide +kernel
theorem dX10_init_133 : decode cX10_init 133 = .ok (.aload_n 0, 1) := by decide +kernel
theorem dX10_init_134 : decode cX10_init 134 = .ok (.bipush 60, 2) := by decide +kernel
theorem dX10_init_136 : decode cX10_init 136 = .ok (.newarray .int, 2) := by decide +kernel
theorem dX10_init_138 : decode cX10_init 138 = .ok (.putfield 58, 3) := by decide +kernel
theorem dX10_init_141 : decode cX10_init 141 = .ok (.iconst 0, 1) := by decide +kernel
theorem dX10_init_142 : decode cX10_init 142 = .ok (.istore_n 1, 1) := by decide +kernel
theorem dX10_init_143 : decode cX10_init 143 = .ok (.iload_n 1, 1) := by decide +kernel
theorem dX10_init_144 : decode cX10_init 144 = .ok (.iconst 4, 1) := by decide +kernel
theorem dX10_init_145 : decode cX10_init 145 = .ok (.if_icmp .ge 16, 3) := by decide +kernel
theorem dX10_init_148 : decode cX10_init 148 = .ok (.aload_n 0, 1) := by decide +kernel
theorem dX10_init_149 : decode cX10_init 149 = .ok (.getfield 49, 3) := by decide +kernel
theorem dX10_init_152 : decode cX10_init 152 = .ok (.iload_n 1, 1) := by decide +kernel
theorem dX10_init_153 : decode cX10_init 153 = .ok (.iconst (-1), 1) := by decide +kernel
theorem dX10_init_154 : decode cX10_init 154 = .ok (.iastore, 1) := by decide +kernel
theorem dX10_init_155 : decode cX10_init 155 = .ok (.iinc 1 1, 3) := by decide +kernel
theorem dX10_init_158 : decode cX10_init 158 = .ok (.goto (-15), 3) := by decide +kernel
theorem dX10_init_161 : decode cX10_init 161 = .ok (.return_, 1) := by decide +kernel
theorem dX10_in_0 : decode cX10_in 0 = .ok (.lload_n 0, 1) := by decide +kernel
theorem dX10_in_1 : decode cX10_in 1 = .ok (.lload_n 2, 1) := by decide +kernel
theorem dX10_in_2 : decode cX10_in 2 = .ok (.lcmp, 1) := by decide +kernel
theorem dX10_in_3 : decode cX10_in 3 = .ok (.ifCond .lt 14, 3) := by decide +kernel
theorem dX10_in_6 : decode cX10_in 6 = .ok (.lload_n 0, 1) := by decide +kernel
theorem dX10_in_7 : decode cX10_in 7 = .ok (.lload 4, 2) := by decide +kernel
theorem dX10_in_9 : decode cX10_in 9 = .ok (.lcmp, 1) := by decide +kernel
theorem dX10_in_10 : decode cX10_in 10 = .ok (.ifCond .gt 7, 3) := by decide +kernel
theorem dX10_in_13 : decode cX10_in 13 = .ok (.iconst 1, 1) := by decide +kernel
theorem dX10_in_14 : decode cX10_in 14 = .ok (.goto 4, 3) := by decide +kernel
theorem dX10_in_17 : decode cX10_in 17 = .ok (.iconst 0, 1) := by decide +kernel
theorem dX10_in_18 : decode cX10_in 18 = .ok (.ireturn, 1) := by decide +kernel
theorem dX10_lost_0 : decode cX10_lost 0 = .ok (.ldc2_w 61, 3) := by decide +kernel
theorem dX10_lost_3 : decode cX10_lost 3 = .ok (.lreturn, 1) := by decide +kernel
theorem dX10_lesser_0 : decode cX10_lesser 0 = .ok (.iload_n 0, 1) := by decide +kernel
theorem dX10_lesser_1 : decode cX10_lesser 1 = .ok (.iload_n 1, 1) := by decide +kernel
theorem dX10_lesser_2 : decode cX10_lesser 2 = .ok (.if_icmp .ge 7, 3) := by decide +kernel
theorem dX10_lesser_5 : decode cX10_lesser 5 = .ok (.iload_n 0, 1) := by decide +kernel
theorem dX10_lesser_6 : decode cX10_lesser 6 = .ok (.goto 4, 3) := by decide +kernel
theorem dX10_lesser_9 : decode cX10_lesser 9 = .ok (.iload_n 1, 1) := by decide +kernel
theorem dX10_lesser_10 : decode cX10_lesser 10 = .ok (.ireturn, 1) := by decide +kernel
theorem dX10_told_0 : decode cX10_told 0 = .ok (.lload_n 0, 1) := by decide +kernel
theorem dX10_told_1 : decode cX10_told 1 = .ok (.lstore 5, 2) := by decide +kernel
theorem dX10_told_3 : decode cX10_told 3 = .ok (.lload_n 2, 1) := by decide +kernel
theorem dX10_told_4 : decode cX10_told 4 = .ok (.lstore 7, 2) := by decide +kernel
theorem dX10_told_6 : decode cX10_told 6 = .ok (.lload 7, 2) := by decide +kernel
theorem dX10_told_8 : decode cX10_told 8 = .ok (.lconst 0, 1) := by decide +kernel
theorem dX10_told_9 : decode cX10_told 9 = .ok (.lcmp, 1) := by decide +kernel
theorem dX10_told_10 : decode cX10_told 10 = .ok (.ifCond .eq 21, 3) := by decide +kernel
theorem dX10_told_13 : decode cX10_told 13 = .ok (.lload 5, 2) := by decide +kernel
theorem dX10_told_15 : decode cX10_told 15 = .ok (.lload 7, 2) := by decide +kernel
theorem dX10_told_17 : decode cX10_told 17 = .ok (.lrem, 1) := by decide +kernel
theorem dX10_told_18 : decode cX10_told 18 = .ok (.lstore 9, 2) := by decide +kernel
theorem dX10_told_20 : decode cX10_told 20 = .ok (.lload 7, 2) := by decide +kernel
theorem dX10_told_22 : decode cX10_told 22 = .ok (.lstore 5, 2) := by decide +kernel
theorem dX10_told_24 : decode cX10_told 24 = .ok (.lload 9, 2) := by decide +kernel
theorem dX10_told_26 : decode cX10_told 26 = .ok (.lstore 7, 2) := by decide +kernel
theorem dX10_told_28 : decode cX10_told 28 = .ok (.goto (-22), 3) := by decide +kernel
theorem dX10_told_31 : decode cX10_told 31 = .ok (.iload 4, 2) := by decide +kernel
theorem dX10_told_33 : decode cX10_told 33 = .ok (.ifCond .ne 7, 3) := by decide +kernel
theorem dX10_told_36 : decode cX10_told 36 = .ok (.lload_n 0, 1) := by decide +kernel
theorem dX10_told_37 : decode cX10_told 37 = .ok (.goto 4, 3) := by decide +kernel
theorem dX10_told_40 : decode cX10_told 40 = .ok (.lload_n 2, 1) := by decide +kernel
theorem dX10_told_41 : decode cX10_told 41 = .ok (.lload 5, 2) := by decide +kernel
theorem dX10_told_43 : decode cX10_told 43 = .ok (.ldiv, 1) := by decide +kernel
theorem dX10_told_44 : decode cX10_told 44 = .ok (.lreturn, 1) := by decide +kernel
theorem dX10_refused_0 : decode cX10_refused 0 = .ok (.aload_n 0, 1) := by decide +kernel
theorem dX10_refused_1 : decode cX10_refused 1 = .ok (.iconst 0, 1) := by decide +kernel
theorem dX10_refused_2 : decode cX10_refused 2 = .ok (.putfield 63, 3) := by decide +kernel
theorem dX10_refused_5 : decode cX10_refused 5 = .ok (.iload_n 1, 1) := by decide +kernel
theorem dX10_refused_6 : decode cX10_refused 6 = .ok (.ireturn, 1) := by decide +kernel
theorem dX10_failed_0 : decode cX10_failed 0 = .ok (.aload_n 0, 1) := by decide +kernel
theorem dX10_failed_1 : decode cX10_failed 1 = .ok (.iload_n 1, 1) := by decide +kernel
theorem dX10_failed_2 : decode cX10_failed 2 = .ok (.putfield 63, 3) := by decide +kernel
theorem dX10_failed_5 : decode cX10_failed 5 = .ok (.bipush (-10), 2) := by decide +kernel
theorem dX10_failed_7 : decode cX10_failed 7 = .ok (.iload_n 1, 1) := by decide +kernel
theorem dX10_failed_8 : decode cX10_failed 8 = .ok (.isub, 1) := by decide +kernel
theorem dX10_failed_9 : decode cX10_failed 9 = .ok (.ireturn, 1) := by decide +kernel
theorem dX10_failedLong_0 : decode cX10_failedLong 0 = .ok (.aload_n 0, 1) := by decide +kernel
theorem dX10_failedLong_1 : decode cX10_failedLong 1 = .ok (.iload_n 1, 1) := by decide +kernel
theorem dX10_failedLong_2 : decode cX10_failedLong 2 = .ok (.putfield 63, 3) := by decide +kernel
theorem dX10_failedLong_5 : decode cX10_failedLong 5 = .ok (.invokestatic 67, 3) := by decide +kernel
theorem dX10_failedLong_8 : decode cX10_failedLong 8 = .ok (.lreturn, 1) := by decide +kernel
theorem dX10_hedges_0 : decode cX10_hedges 0 = .ok (.aload_n 0, 1) := by decide +kernel
theorem dX10_hedges_1 : decode cX10_hedges 1 = .ok (.getfield 71, 3) := by decide +kernel
theorem dX10_hedges_4 : decode cX10_hedges 4 = .ok (.ifCond .le 12, 3) := by decide +kernel
theorem dX10_hedges_7 : decode cX10_hedges 7 = .ok (.aload_n 0, 1) := by decide +kernel
theorem dX10_hedges_8 : decode cX10_hedges 8 = .ok (.getfield 71, 3) := by decide +kernel
theorem dX10_hedges_11 : decode cX10_hedges 11 = .ok (.iconst 1, 1) := by decide +kernel
theorem dX10_hedges_12 : decode cX10_hedges 12 = .ok (.isub, 1) := by decide +kernel
theorem dX10_hedges_13 : decode cX10_hedges 13 = .ok (.goto 4, 3) := by decide +kernel
theorem dX10_hedges_16 : decode cX10_hedges 16 = .ok (.iconst 0, 1) := by decide +kernel
theorem dX10_hedges_17 : decode cX10_hedges 17 = .ok (.ireturn, 1) := by decide +kernel
theorem dX10_noGarden_0 : decode cX10_noGarden 0 = .ok (.iload_n 1, 1) := by decide +kernel
theorem dX10_noGarden_1 : decode cX10_noGarden 1 = .ok (.i2l, 1) := by decide +kernel
theorem dX10_noGarden_2 : decode cX10_noGarden 2 = .ok (.lconst 0, 1) := by decide +kernel
theorem dX10_noGarden_3 : decode cX10_noGarden 3 = .ok (.aload_n 0, 1) := by decide +kernel
theorem dX10_noGarden_4 : decode cX10_noGarden 4 = .ok (.getfield 71, 3) := by decide +kernel
theorem dX10_noGarden_7 : decode cX10_noGarden 7 = .ok (.i2l, 1) := by decide +kernel
theorem dX10_noGarden_8 : decode cX10_noGarden 8 = .ok (.lconst 1, 1) := by decide +kernel
theorem dX10_noGarden_9 : decode cX10_noGarden 9 = .ok (.lsub, 1) := by decide +kernel
theorem dX10_noGarden_10 : decode cX10_noGarden 10 = .ok (.invokestatic 74, 3) := by decide +kernel
theorem dX10_noGarden_13 : decode cX10_noGarden 13 = .ok (.ifCond .ne 7, 3) := by decide +kernel
theorem dX10_noGarden_16 : decode cX10_noGarden 16 = .ok (.iconst 1, 1) := by decide +kernel
theorem dX10_noGarden_17 : decode cX10_noGarden 17 = .ok (.goto 4, 3) := by decide +kernel
theorem dX10_noGarden_20 : decode cX10_noGarden 20 = .ok (.iconst 0, 1) := by decide +kernel
theorem dX10_noGarden_21 : decode cX10_noGarden 21 = .ok (.ireturn, 1) := by decide +kernel
theorem dX10_noHedge_0 : decode cX10_noHedge 0 = .ok (.iload_n 1, 1) := by decide +kernel
theorem dX10_noHedge_1 : decode cX10_noHedge 1 = .ok (.i2l, 1) := by decide +kernel
theorem dX10_noHedge_2 : decode cX10_noHedge 2 = .ok (.lconst 0, 1) := by decide +kernel
theorem dX10_noHedge_3 : decode cX10_noHedge 3 = .ok (.aload_n 0, 1) := by decide +kernel
theorem dX10_noHedge_4 : decode cX10_noHedge 4 = .ok (.invokevirtual 78, 3) := by decide +kernel
theorem dX10_noHedge_7 : decode cX10_noHedge 7 = .ok (.i2l, 1) := by decide +kernel
theorem dX10_noHedge_8 : decode cX10_noHedge 8 = .ok (.lconst 1, 1) := by decide +kernel
theorem dX10_noHedge_9 : decode cX10_noHedge 9 = .ok (.lsub, 1) := by decide +kernel
theorem dX10_noHedge_10 : decode cX10_noHedge 10 = .ok (.invokestatic 74, 3) := by decide +kernel
theorem dX10_noHedge_13 : decode cX10_noHedge 13 = .ok (.ifCond .ne 7, 3) := by decide +kernel
theorem dX10_noHedge_16 : decode cX10_noHedge 16 = .ok (.iconst 1, 1) := by decide +kernel
theorem dX10_noHedge_17 : decode cX10_noHedge 17 = .ok (.goto 4, 3) := by decide +kernel
theorem dX10_noHedge_20 : decode cX10_noHedge 20 = .ok (.iconst 0, 1) := by decide +kernel
theorem dX10_noHedge_21 : decode cX10_noHedge 21 = .ok (.ireturn, 1) := by decide +kernel
theorem dX10_isDay_0 : decode cX10_isDay 0 = .ok (.iload_n 0, 1) := by decide +kernel
theorem dX10_isDay_1 : decode cX10_isDay 1 = .ok (.i2l, 1) := by decide +kernel
theorem dX10_isDay_2 : decode cX10_isDay 2 = .ok (.lconst 0, 1) := by decide +kernel
theorem dX10_isDay_3 : decode cX10_isDay 3 = .ok (.ldc2_w 82, 3) := by decide +kernel
theorem dX10_isDay_6 : decode cX10_isDay 6 = .ok (.invokestatic 74, 3) := by decide +kernel
theorem dX10_isDay_9 : decode cX10_isDay 9 = .ok (.ireturn, 1) := by decide +kernel
theorem dX10_isDawn_0 : decode cX10_isDawn 0 = .ok (.iload_n 0, 1) := by decide +kernel
theorem dX10_isDawn_1 : decode cX10_isDawn 1 = .ok (.i2l, 1) := by decide +kernel
theorem dX10_isDawn_2 : decode cX10_isDawn 2 = .ok (.lconst 0, 1) := by decide +kernel
theorem dX10_isDawn_3 : decode cX10_isDawn 3 = .ok (.ldc2_w 84, 3) := by decide +kernel
theorem dX10_isDawn_6 : decode cX10_isDawn 6 = .ok (.invokestatic 74, 3) := by decide +kernel
theorem dX10_isDawn_9 : decode cX10_isDawn 9 = .ok (.ireturn, 1) := by decide +kernel
theorem dX10_isSide_0 : decode cX10_isSide 0 = .ok (.iload_n 0, 1) := by decide +kernel
theorem dX10_isSide_1 : decode cX10_isSide 1 = .ok (.i2l, 1) := by decide +kernel
theorem dX10_isSide_2 : decode cX10_isSide 2 = .ok (.lconst 0, 1) := by decide +kernel
theorem dX10_isSide_3 : decode cX10_isSide 3 = .ok (.lconst 1, 1) := by decide +kernel
theorem dX10_isSide_4 : decode cX10_isSide 4 = .ok (.invokestatic 74, 3) := by decide +kernel
theorem dX10_isSide_7 : decode cX10_isSide 7 = .ok (.ireturn, 1) := by decide +kernel
theorem dX10_isFeet_0 : decode cX10_isFeet 0 = .ok (.iload_n 0, 1) := by decide +kernel
theorem dX10_isFeet_1 : decode cX10_isFeet 1 = .ok (.i2l, 1) := by decide +kernel
theorem dX10_isFeet_2 : decode cX10_isFeet 2 = .ok (.lconst 0, 1) := by decide +kernel
theorem dX10_isFeet_3 : decode cX10_isFeet 3 = .ok (.ldc2_w 86, 3) := by decide +kernel
theorem dX10_isFeet_6 : decode cX10_isFeet 6 = .ok (.invokestatic 74, 3) := by decide +kernel
theorem dX10_isFeet_9 : decode cX10_isFeet 9 = .ok (.ireturn, 1) := by decide +kernel
theorem dX10_codeAt_0 : decode cX10_codeAt 0 = .ok (.aload_n 0, 1) := by decide +kernel
theorem dX10_codeAt_1 : decode cX10_codeAt 1 = .ok (.getfield 88, 3) := by decide +kernel
theorem dX10_codeAt_4 : decode cX10_codeAt 4 = .ok (.iload_n 2, 1) := by decide +kernel
theorem dX10_codeAt_5 : decode cX10_codeAt 5 = .ok (.if_icmp .ge 17, 3) := by decide +kernel
theorem dX10_codeAt_8 : decode cX10_codeAt 8 = .ok (.aload_n 0, 1) := by decide +kernel
theorem dX10_codeAt_9 : decode cX10_codeAt 9 = .ok (.getfield 55, 3) := by decide +kernel
theorem dX10_codeAt_12 : decode cX10_codeAt 12 = .ok (.iload_n 1, 1) := by decide +kernel
theorem dX10_codeAt_13 : decode cX10_codeAt 13 = .ok (.aload_n 0, 1) := by decide +kernel
theorem dX10_codeAt_14 : decode cX10_codeAt 14 = .ok (.getfield 88, 3) := by decide +kernel
theorem dX10_codeAt_17 : decode cX10_codeAt 17 = .ok (.iadd, 1) := by decide +kernel
theorem dX10_codeAt_18 : decode cX10_codeAt 18 = .ok (.iaload, 1) := by decide +kernel
theorem dX10_codeAt_19 : decode cX10_codeAt 19 = .ok (.goto 5, 3) := by decide +kernel
theorem dX10_codeAt_22 : decode cX10_codeAt 22 = .ok (.bipush (-9), 2) := by decide +kernel
theorem dX10_codeAt_24 : decode cX10_codeAt 24 = .ok (.ireturn, 1) := by decide +kernel
theorem dX10_figure_0 : decode cX10_figure 0 = .ok (.aload_n 0, 1) := by decide +kernel
theorem dX10_figure_1 : decode cX10_figure 1 = .ok (.iload_n 1, 1) := by decide +kernel
theorem dX10_figure_2 : decode cX10_figure 2 = .ok (.iload_n 2, 1) := by decide +kernel
theorem dX10_figure_3 : decode cX10_figure 3 = .ok (.invokevirtual 91, 3) := by decide +kernel
theorem dX10_figure_6 : decode cX10_figure 6 = .ok (.bipush 48, 2) := by decide +kernel
theorem dX10_figure_8 : decode cX10_figure 8 = .ok (.isub, 1) := by decide +kernel
theorem dX10_figure_9 : decode cX10_figure 9 = .ok (.istore_n 3, 1) := by decide +kernel
theorem dX10_figure_10 : decode cX10_figure 10 = .ok (.iload_n 3, 1) := by decide +kernel
theorem dX10_figure_11 : decode cX10_figure 11 = .ok (.i2l, 1) := by decide +kernel
theorem dX10_figure_12 : decode cX10_figure 12 = .ok (.lconst 0, 1) := by decide +kernel
theorem dX10_figure_13 : decode cX10_figure 13 = .ok (.ldc2_w 95, 3) := by decide +kernel
theorem dX10_figure_16 : decode cX10_figure 16 = .ok (.invokestatic 74, 3) := by decide +kernel
theorem dX10_figure_19 : decode cX10_figure 19 = .ok (.istore 4, 2) := by decide +kernel
theorem dX10_figure_21 : decode cX10_figure 21 = .ok (.aload_n 0, 1) := by decide +kernel
theorem dX10_figure_22 : decode cX10_figure 22 = .ok (.dup, 1) := by decide +kernel
theorem dX10_figure_23 : decode cX10_figure 23 = .ok (.getfield 88, 3) := by decide +kernel
theorem dX10_figure_26 : decode cX10_figure 26 = .ok (.iload 4, 2) := by decide +kernel
theorem dX10_figure_28 : decode cX10_figure 28 = .ok (.ifCond .eq 7, 3) := by decide +kernel
theorem dX10_figure_31 : decode cX10_figure 31 = .ok (.iconst 1, 1) := by decide +kernel
theorem dX10_figure_32 : decode cX10_figure 32 = .ok (.goto 4, 3) := by decide +kernel
theorem dX10_figure_35 : decode cX10_figure 35 = .ok (.iconst 0, 1) := by decide +kernel
theorem dX10_figure_36 : decode cX10_figure 36 = .ok (.iadd, 1) := by decide +kernel
theorem dX10_figure_37 : decode cX10_figure 37 = .ok (.putfield 88, 3) := by decide +kernel
theorem dX10_figure_40 : decode cX10_figure 40 = .ok (.iload 4, 2) := by decide +kernel
theorem dX10_figure_42 : decode cX10_figure 42 = .ok (.ifCond .eq 7, 3) := by decide +kernel
theorem dX10_figure_45 : decode cX10_figure 45 = .ok (.iload_n 3, 1) := by decide +kernel
theorem dX10_figure_46 : decode cX10_figure 46 = .ok (.goto 5, 3) := by decide +kernel
theorem dX10_figure_49 : decode cX10_figure 49 = .ok (.bipush (-9), 2) := by decide +kernel
theorem dX10_figure_51 : decode cX10_figure 51 = .ok (.ireturn, 1) := by decide +kernel
theorem dX10_readsMore_0 : decode cX10_readsMore 0 = .ok (.aload_n 0, 1) := by decide +kernel
theorem dX10_readsMore_1 : decode cX10_readsMore 1 = .ok (.iload_n 1, 1) := by decide +kernel
theorem dX10_readsMore_2 : decode cX10_readsMore 2 = .ok (.iload_n 2, 1) := by decide +kernel
theorem dX10_readsMore_3 : decode cX10_readsMore 3 = .ok (.invokevirtual 91, 3) := by decide +kernel
theorem dX10_readsMore_6 : decode cX10_readsMore 6 = .ok (.istore_n 3, 1) := by decide +kernel
theorem dX10_readsMore_7 : decode cX10_readsMore 7 = .ok (.aload_n 0, 1) := by decide +kernel
theorem dX10_readsMore_8 : decode cX10_readsMore 8 = .ok (.getfield 97, 3) := by decide +kernel
theorem dX10_readsMore_11 : decode cX10_readsMore 11 = .ok (.bipush 7, 2) := by decide +kernel
theorem dX10_readsMore_13 : decode cX10_readsMore 13 = .ok (.if_icmp .eq 21, 3) := by decide +kernel
theorem dX10_readsMore_16 : decode cX10_readsMore 16 = .ok (.iload_n 3, 1) := by decide +kernel
theorem dX10_readsMore_17 : decode cX10_readsMore 17 = .ok (.bipush 104, 2) := by decide +kernel
theorem dX10_readsMore_19 : decode cX10_readsMore 19 = .ok (.if_icmp .eq 17, 3) := by decide +kernel
theorem dX10_readsMore_22 : decode cX10_readsMore 22 = .ok (.iload_n 3, 1) := by decide +kernel
theorem dX10_readsMore_23 : decode cX10_readsMore 23 = .ok (.bipush 121, 2) := by decide +kernel
theorem dX10_readsMore_25 : decode cX10_readsMore 25 = .ok (.if_icmp .eq 11, 3) := by decide +kernel
theorem dX10_readsMore_28 : decode cX10_readsMore 28 = .ok (.iload_n 3, 1) := by decide +kernel
theorem dX10_readsMore_29 : decode cX10_readsMore 29 = .ok (.bipush 98, 2) := by decide +kernel
theorem dX10_readsMore_31 : decode cX10_readsMore 31 = .ok (.if_icmp .eq 5, 3) := by decide +kernel
theorem dX10_readsMore_34 : decode cX10_readsMore 34 = .ok (.iconst 0, 1) := by decide +kernel
theorem dX10_readsMore_35 : decode cX10_readsMore 35 = .ok (.ireturn, 1) := by decide +kernel
theorem dX10_readsMore_36 : decode cX10_readsMore 36 = .ok (.aload_n 0, 1) := by decide +kernel
theorem dX10_readsMore_37 : decode cX10_readsMore 37 = .ok (.dup, 1) := by decide +kernel
theorem dX10_readsMore_38 : decode cX10_readsMore 38 = .ok (.getfield 88, 3) := by decide +kernel
theorem dX10_readsMore_41 : decode cX10_readsMore 41 = .ok (.iconst 1, 1) := by decide +kernel
theorem dX10_readsMore_42 : decode cX10_readsMore 42 = .ok (.iadd, 1) := by decide +kernel
theorem dX10_readsMore_43 : decode cX10_readsMore 43 = .ok (.putfield 88, 3) := by decide +kernel
theorem dX10_readsMore_46 : decode cX10_readsMore 46 = .ok (.aload_n 0, 1) := by decide +kernel
theorem dX10_readsMore_47 : decode cX10_readsMore 47 = .ok (.iload_n 1, 1) := by decide +kernel
theorem dX10_readsMore_48 : decode cX10_readsMore 48 = .ok (.iload_n 2, 1) := by decide +kernel
theorem dX10_readsMore_49 : decode cX10_readsMore 49 = .ok (.invokevirtual 100, 3) := by decide +kernel
theorem dX10_readsMore_52 : decode cX10_readsMore 52 = .ok (.istore 4, 2) := by decide +kernel
theorem dX10_readsMore_54 : decode cX10_readsMore 54 = .ok (.iload 4, 2) := by decide +kernel
theorem dX10_readsMore_56 : decode cX10_readsMore 56 = .ok (.ifCond .ge 8, 3) := by decide +kernel
theorem dX10_readsMore_59 : decode cX10_readsMore 59 = .ok (.bipush (-9), 2) := by decide +kernel
theorem dX10_readsMore_61 : decode cX10_readsMore 61 = .ok (.goto 9, 3) := by decide +kernel
theorem dX10_readsMore_64 : decode cX10_readsMore 64 = .ok (.aload_n 0, 1) := by decide +kernel
theorem dX10_readsMore_65 : decode cX10_readsMore 65 = .ok (.iload_n 1, 1) := by decide +kernel
theorem dX10_readsMore_66 : decode cX10_readsMore 66 = .ok (.iload_n 2, 1) := by decide +kernel
theorem dX10_readsMore_67 : decode cX10_readsMore 67 = .ok (.invokevirtual 100, 3) := by decide +kernel
theorem dX10_readsMore_70 : decode cX10_readsMore 70 = .ok (.istore 5, 2) := by decide +kernel
theorem dX10_readsMore_72 : decode cX10_readsMore 72 = .ok (.iload 5, 2) := by decide +kernel
theorem dX10_readsMore_74 : decode cX10_readsMore 74 = .ok (.ifCond .ge 5, 3) := by decide +kernel
theorem dX10_readsMore_77 : decode cX10_readsMore 77 = .ok (.iconst 0, 1) := by decide +kernel
theorem dX10_readsMore_78 : decode cX10_readsMore 78 = .ok (.ireturn, 1) := by decide +kernel
theorem dX10_readsMore_79 : decode cX10_readsMore 79 = .ok (.aload_n 0, 1) := by decide +kernel
theorem dX10_readsMore_80 : decode cX10_readsMore 80 = .ok (.getfield 28, 3) := by decide +kernel
theorem dX10_readsMore_83 : decode cX10_readsMore 83 = .ok (.aload_n 0, 1) := by decide +kernel
theorem dX10_readsMore_84 : decode cX10_readsMore 84 = .ok (.getfield 97, 3) := by decide +kernel
theorem dX10_readsMore_87 : decode cX10_readsMore 87 = .ok (.iconst 1, 1) := by decide +kernel
theorem dX10_readsMore_88 : decode cX10_readsMore 88 = .ok (.isub, 1) := by decide +kernel
theorem dX10_readsMore_89 : decode cX10_readsMore 89 = .ok (.iload_n 3, 1) := by decide +kernel
theorem dX10_readsMore_90 : decode cX10_readsMore 90 = .ok (.bipush 104, 2) := by decide +kernel
theorem dX10_readsMore_92 : decode cX10_readsMore 92 = .ok (.if_icmp .ne 7, 3) := by decide +kernel
theorem dX10_readsMore_95 : decode cX10_readsMore 95 = .ok (.iconst 0, 1) := by decide +kernel
theorem dX10_readsMore_96 : decode cX10_readsMore 96 = .ok (.goto 14, 3) := by decide +kernel
theorem dX10_readsMore_99 : decode cX10_readsMore 99 = .ok (.iload_n 3, 1) := by decide +kernel
theorem dX10_readsMore_100 : decode cX10_readsMore 100 = .ok (.bipush 121, 2) := by decide +kernel
theorem dX10_readsMore_102 : decode cX10_readsMore 102 = .ok (.if_icmp .ne 7, 3) := by decide +kernel
theorem dX10_readsMore_105 : decode cX10_readsMore 105 = .ok (.iconst 1, 1) := by decide +kernel
theorem dX10_readsMore_106 : decode cX10_readsMore 106 = .ok (.goto 4, 3) := by decide +kernel
theorem dX10_readsMore_109 : decode cX10_readsMore 109 = .ok (.iconst 2, 1) := by decide +kernel
theorem dX10_readsMore_110 : decode cX10_readsMore 110 = .ok (.iastore, 1) := by decide +kernel
theorem dX10_readsMore_111 : decode cX10_readsMore 111 = .ok (.aload_n 0, 1) := by decide +kernel
theorem dX10_readsMore_112 : decode cX10_readsMore 112 = .ok (.getfield 31, 3) := by decide +kernel
theorem dX10_readsMore_115 : decode cX10_readsMore 115 = .ok (.aload_n 0, 1) := by decide +kernel
theorem dX10_readsMore_116 : decode cX10_readsMore 116 = .ok (.getfield 97, 3) := by decide +kernel
theorem dX10_readsMore_119 : decode cX10_readsMore 119 = .ok (.iconst 1, 1) := by decide +kernel
theorem dX10_readsMore_120 : decode cX10_readsMore 120 = .ok (.isub, 1) := by decide +kernel
theorem dX10_readsMore_121 : decode cX10_readsMore 121 = .ok (.iload 4, 2) := by decide +kernel
theorem dX10_readsMore_123 : decode cX10_readsMore 123 = .ok (.iastore, 1) := by decide +kernel
theorem dX10_readsMore_124 : decode cX10_readsMore 124 = .ok (.aload_n 0, 1) := by decide +kernel
theorem dX10_readsMore_125 : decode cX10_readsMore 125 = .ok (.getfield 25, 3) := by decide +kernel
theorem dX10_readsMore_128 : decode cX10_readsMore 128 = .ok (.aload_n 0, 1) := by decide +kernel
theorem dX10_readsMore_129 : decode cX10_readsMore 129 = .ok (.getfield 97, 3) := by decide +kernel
theorem dX10_readsMore_132 : decode cX10_readsMore 132 = .ok (.iload 5, 2) := by decide +kernel
theorem dX10_readsMore_134 : decode cX10_readsMore 134 = .ok (.iastore, 1) := by decide +kernel
theorem dX10_readsMore_135 : decode cX10_readsMore 135 = .ok (.aload_n 0, 1) := by decide +kernel
theorem dX10_readsMore_136 : decode cX10_readsMore 136 = .ok (.dup, 1) := by decide +kernel
theorem dX10_readsMore_137 : decode cX10_readsMore 137 = .ok (.getfield 97, 3) := by decide +kernel
theorem dX10_readsMore_140 : decode cX10_readsMore 140 = .ok (.iconst 1, 1) := by decide +kernel
theorem dX10_readsMore_141 : decode cX10_readsMore 141 = .ok (.iadd, 1) := by decide +kernel
theorem dX10_readsMore_142 : decode cX10_readsMore 142 = .ok (.putfield 97, 3) := by decide +kernel
theorem dX10_readsMore_145 : decode cX10_readsMore 145 = .ok (.iconst 1, 1) := by decide +kernel
theorem dX10_readsMore_146 : decode cX10_readsMore 146 = .ok (.ireturn, 1) := by decide +kernel
theorem dX10_readsAll_0 : decode cX10_readsAll 0 = .ok (.aload_n 0, 1) := by decide +kernel
theorem dX10_readsAll_1 : decode cX10_readsAll 1 = .ok (.iconst 0, 1) := by decide +kernel
theorem dX10_readsAll_2 : decode cX10_readsAll 2 = .ok (.putfield 88, 3) := by decide +kernel
theorem dX10_readsAll_5 : decode cX10_readsAll 5 = .ok (.aload_n 0, 1) := by decide +kernel
theorem dX10_readsAll_6 : decode cX10_readsAll 6 = .ok (.iconst 1, 1) := by decide +kernel
theorem dX10_readsAll_7 : decode cX10_readsAll 7 = .ok (.putfield 97, 3) := by decide +kernel
theorem dX10_readsAll_10 : decode cX10_readsAll 10 = .ok (.aload_n 0, 1) := by decide +kernel
theorem dX10_readsAll_11 : decode cX10_readsAll 11 = .ok (.iload_n 1, 1) := by decide +kernel
theorem dX10_readsAll_12 : decode cX10_readsAll 12 = .ok (.iload_n 2, 1) := by decide +kernel
theorem dX10_readsAll_13 : decode cX10_readsAll 13 = .ok (.invokevirtual 91, 3) := by decide +kernel
theorem dX10_readsAll_16 : decode cX10_readsAll 16 = .ok (.bipush 103, 2) := by decide +kernel
theorem dX10_readsAll_18 : decode cX10_readsAll 18 = .ok (.if_icmp .eq 5, 3) := by decide +kernel
theorem dX10_readsAll_21 : decode cX10_readsAll 21 = .ok (.iconst 0, 1) := by decide +kernel
theorem dX10_readsAll_22 : decode cX10_readsAll 22 = .ok (.ireturn, 1) := by decide +kernel
theorem dX10_readsAll_23 : decode cX10_readsAll 23 = .ok (.aload_n 0, 1) := by decide +kernel
theorem dX10_readsAll_24 : decode cX10_readsAll 24 = .ok (.dup, 1) := by decide +kernel
theorem dX10_readsAll_25 : decode cX10_readsAll 25 = .ok (.getfield 88, 3) := by decide +kernel
theorem dX10_readsAll_28 : decode cX10_readsAll 28 = .ok (.iconst 1, 1) := by decide +kernel
theorem dX10_readsAll_29 : decode cX10_readsAll 29 = .ok (.iadd, 1) := by decide +kernel
theorem dX10_readsAll_30 : decode cX10_readsAll 30 = .ok (.putfield 88, 3) := by decide +kernel
theorem dX10_readsAll_33 : decode cX10_readsAll 33 = .ok (.aload_n 0, 1) := by decide +kernel
theorem dX10_readsAll_34 : decode cX10_readsAll 34 = .ok (.getfield 25, 3) := by decide +kernel
theorem dX10_readsAll_37 : decode cX10_readsAll 37 = .ok (.iconst 0, 1) := by decide +kernel
theorem dX10_readsAll_38 : decode cX10_readsAll 38 = .ok (.aload_n 0, 1) := by decide +kernel
theorem dX10_readsAll_39 : decode cX10_readsAll 39 = .ok (.iload_n 1, 1) := by decide +kernel
theorem dX10_readsAll_40 : decode cX10_readsAll 40 = .ok (.iload_n 2, 1) := by decide +kernel
theorem dX10_readsAll_41 : decode cX10_readsAll 41 = .ok (.invokevirtual 100, 3) := by decide +kernel
theorem dX10_readsAll_44 : decode cX10_readsAll 44 = .ok (.iastore, 1) := by decide +kernel
theorem dX10_readsAll_45 : decode cX10_readsAll 45 = .ok (.aload_n 0, 1) := by decide +kernel
theorem dX10_readsAll_46 : decode cX10_readsAll 46 = .ok (.getfield 25, 3) := by decide +kernel
theorem dX10_readsAll_49 : decode cX10_readsAll 49 = .ok (.iconst 0, 1) := by decide +kernel
theorem dX10_readsAll_50 : decode cX10_readsAll 50 = .ok (.iaload, 1) := by decide +kernel
theorem dX10_readsAll_51 : decode cX10_readsAll 51 = .ok (.ifCond .lt 16, 3) := by decide +kernel
theorem dX10_readsAll_54 : decode cX10_readsAll 54 = .ok (.aload_n 0, 1) := by decide +kernel
theorem dX10_readsAll_55 : decode cX10_readsAll 55 = .ok (.iload_n 1, 1) := by decide +kernel
theorem dX10_readsAll_56 : decode cX10_readsAll 56 = .ok (.iload_n 2, 1) := by decide +kernel
theorem dX10_readsAll_57 : decode cX10_readsAll 57 = .ok (.invokevirtual 103, 3) := by decide +kernel
theorem dX10_readsAll_60 : decode cX10_readsAll 60 = .ok (.ifCond .eq 7, 3) := by decide +kernel
theorem dX10_readsAll_63 : decode cX10_readsAll 63 = .ok (.iconst 1, 1) := by decide +kernel
theorem dX10_readsAll_64 : decode cX10_readsAll 64 = .ok (.goto 4, 3) := by decide +kernel
theorem dX10_readsAll_67 : decode cX10_readsAll 67 = .ok (.iconst 0, 1) := by decide +kernel
theorem dX10_readsAll_68 : decode cX10_readsAll 68 = .ok (.istore_n 3, 1) := by decide +kernel
theorem dX10_readsAll_69 : decode cX10_readsAll 69 = .ok (.iload_n 3, 1) := by decide +kernel
theorem dX10_readsAll_70 : decode cX10_readsAll 70 = .ok (.ifCond .eq 21, 3) := by decide +kernel
theorem dX10_readsAll_73 : decode cX10_readsAll 73 = .ok (.aload_n 0, 1) := by decide +kernel
theorem dX10_readsAll_74 : decode cX10_readsAll 74 = .ok (.getfield 88, 3) := by decide +kernel
theorem dX10_readsAll_77 : decode cX10_readsAll 77 = .ok (.iload_n 2, 1) := by decide +kernel
theorem dX10_readsAll_78 : decode cX10_readsAll 78 = .ok (.if_icmp .ge 13, 3) := by decide +kernel
theorem dX10_readsAll_81 : decode cX10_readsAll 81 = .ok (.aload_n 0, 1) := by decide +kernel
theorem dX10_readsAll_82 : decode cX10_readsAll 82 = .ok (.iload_n 1, 1) := by decide +kernel
theorem dX10_readsAll_83 : decode cX10_readsAll 83 = .ok (.iload_n 2, 1) := by decide +kernel
theorem dX10_readsAll_84 : decode cX10_readsAll 84 = .ok (.invokevirtual 103, 3) := by decide +kernel
theorem dX10_readsAll_87 : decode cX10_readsAll 87 = .ok (.istore_n 3, 1) := by decide +kernel
theorem dX10_readsAll_88 : decode cX10_readsAll 88 = .ok (.goto (-19), 3) := by decide +kernel
theorem dX10_readsAll_91 : decode cX10_readsAll 91 = .ok (.iload_n 3, 1) := by decide +kernel
theorem dX10_readsAll_92 : decode cX10_readsAll 92 = .ok (.ireturn, 1) := by decide +kernel
theorem dX10_gardens_0 : decode cX10_gardens 0 = .ok (.iload_n 1, 1) := by decide +kernel
theorem dX10_gardens_1 : decode cX10_gardens 1 = .ok (.invokestatic 107, 3) := by decide +kernel
theorem dX10_gardens_4 : decode cX10_gardens 4 = .ok (.ifCond .eq 9, 3) := by decide +kernel
theorem dX10_gardens_7 : decode cX10_gardens 7 = .ok (.aload_n 0, 1) := by decide +kernel
theorem dX10_gardens_8 : decode cX10_gardens 8 = .ok (.iconst (-1), 1) := by decide +kernel
theorem dX10_gardens_9 : decode cX10_gardens 9 = .ok (.invokevirtual 111, 3) := by decide +kernel
theorem dX10_gardens_12 : decode cX10_gardens 12 = .ok (.ireturn, 1) := by decide +kernel
theorem dX10_gardens_13 : decode cX10_gardens 13 = .ok (.iload_n 2, 1) := by decide +kernel
theorem dX10_gardens_14 : decode cX10_gardens 14 = .ok (.i2l, 1) := by decide +kernel
theorem dX10_gardens_15 : decode cX10_gardens 15 = .ok (.lconst 0, 1) := by decide +kernel
theorem dX10_gardens_16 : decode cX10_gardens 16 = .ok (.ldc2_w 115, 3) := by decide +kernel
theorem dX10_gardens_19 : decode cX10_gardens 19 = .ok (.invokestatic 74, 3) := by decide +kernel
theorem dX10_gardens_22 : decode cX10_gardens 22 = .ok (.ifCond .ne 10, 3) := by decide +kernel
theorem dX10_gardens_25 : decode cX10_gardens 25 = .ok (.aload_n 0, 1) := by decide +kernel
theorem dX10_gardens_26 : decode cX10_gardens 26 = .ok (.bipush (-2), 2) := by decide +kernel
theorem dX10_gardens_28 : decode cX10_gardens 28 = .ok (.invokevirtual 111, 3) := by decide +kernel
theorem dX10_gardens_31 : decode cX10_gardens 31 = .ok (.ireturn, 1) := by decide +kernel
theorem dX10_gardens_32 : decode cX10_gardens 32 = .ok (.aload_n 0, 1) := by decide +kernel
theorem dX10_gardens_33 : decode cX10_gardens 33 = .ok (.getfield 49, 3) := by decide +kernel
theorem dX10_gardens_36 : decode cX10_gardens 36 = .ok (.iload_n 1, 1) := by decide +kernel
theorem dX10_gardens_37 : decode cX10_gardens 37 = .ok (.iaload, 1) := by decide +kernel
theorem dX10_gardens_38 : decode cX10_gardens 38 = .ok (.ifCond .lt 19, 3) := by decide +kernel
theorem dX10_gardens_41 : decode cX10_gardens 41 = .ok (.aload_n 0, 1) := by decide +kernel
theorem dX10_gardens_42 : decode cX10_gardens 42 = .ok (.getfield 52, 3) := by decide +kernel
theorem dX10_gardens_45 : decode cX10_gardens 45 = .ok (.iload_n 1, 1) := by decide +kernel
theorem dX10_gardens_46 : decode cX10_gardens 46 = .ok (.iaload, 1) := by decide +kernel
theorem dX10_gardens_47 : decode cX10_gardens 47 = .ok (.iload_n 2, 1) := by decide +kernel
theorem dX10_gardens_48 : decode cX10_gardens 48 = .ok (.if_icmp .eq 9, 3) := by decide +kernel
theorem dX10_gardens_51 : decode cX10_gardens 51 = .ok (.aload_n 0, 1) := by decide +kernel
theorem dX10_gardens_52 : decode cX10_gardens 52 = .ok (.iconst 2, 1) := by decide +kernel
theorem dX10_gardens_53 : decode cX10_gardens 53 = .ok (.invokevirtual 117, 3) := by decide +kernel
theorem dX10_gardens_56 : decode cX10_gardens 56 = .ok (.ireturn, 1) := by decide +kernel
theorem dX10_gardens_57 : decode cX10_gardens 57 = .ok (.aload_n 0, 1) := by decide +kernel
theorem dX10_gardens_58 : decode cX10_gardens 58 = .ok (.getfield 49, 3) := by decide +kernel
theorem dX10_gardens_61 : decode cX10_gardens 61 = .ok (.iload_n 1, 1) := by decide +kernel
theorem dX10_gardens_62 : decode cX10_gardens 62 = .ok (.iaload, 1) := by decide +kernel
theorem dX10_gardens_63 : decode cX10_gardens 63 = .ok (.ifCond .ge 9, 3) := by decide +kernel
theorem dX10_gardens_66 : decode cX10_gardens 66 = .ok (.aload_n 0, 1) := by decide +kernel
theorem dX10_gardens_67 : decode cX10_gardens 67 = .ok (.iconst 1, 1) := by decide +kernel
theorem dX10_gardens_68 : decode cX10_gardens 68 = .ok (.invokevirtual 117, 3) := by decide +kernel
theorem dX10_gardens_71 : decode cX10_gardens 71 = .ok (.ireturn, 1) := by decide +kernel
theorem dX10_gardens_72 : decode cX10_gardens 72 = .ok (.iload 4, 2) := by decide +kernel
theorem dX10_gardens_74 : decode cX10_gardens 74 = .ok (.ifCond .ge 9, 3) := by decide +kernel
theorem dX10_gardens_77 : decode cX10_gardens 77 = .ok (.aload_n 0, 1) := by decide +kernel
theorem dX10_gardens_78 : decode cX10_gardens 78 = .ok (.iconst 4, 1) := by decide +kernel
theorem dX10_gardens_79 : decode cX10_gardens 79 = .ok (.invokevirtual 117, 3) := by decide +kernel
theorem dX10_gardens_82 : decode cX10_gardens 82 = .ok (.ireturn, 1) := by decide +kernel
theorem dX10_gardens_83 : decode cX10_gardens 83 = .ok (.iload_n 3, 1) := by decide +kernel
theorem dX10_gardens_84 : decode cX10_gardens 84 = .ok (.iload 4, 2) := by decide +kernel
theorem dX10_gardens_86 : decode cX10_gardens 86 = .ok (.i2l, 1) := by decide +kernel
theorem dX10_gardens_87 : decode cX10_gardens 87 = .ok (.aload_n 0, 1) := by decide +kernel
theorem dX10_gardens_88 : decode cX10_gardens 88 = .ok (.getfield 49, 3) := by decide +kernel
theorem dX10_gardens_91 : decode cX10_gardens 91 = .ok (.iload_n 1, 1) := by decide +kernel
theorem dX10_gardens_92 : decode cX10_gardens 92 = .ok (.iaload, 1) := by decide +kernel
theorem dX10_gardens_93 : decode cX10_gardens 93 = .ok (.invokestatic 120, 3) := by decide +kernel
theorem dX10_gardens_96 : decode cX10_gardens 96 = .ok (.ifCond .eq 9, 3) := by decide +kernel
theorem dX10_gardens_99 : decode cX10_gardens 99 = .ok (.aload_n 0, 1) := by decide +kernel
theorem dX10_gardens_100 : decode cX10_gardens 100 = .ok (.iconst 3, 1) := by decide +kernel
theorem dX10_gardens_101 : decode cX10_gardens 101 = .ok (.invokevirtual 117, 3) := by decide +kernel
theorem dX10_gardens_104 : decode cX10_gardens 104 = .ok (.ireturn, 1) := by decide +kernel
theorem dX10_gardens_105 : decode cX10_gardens 105 = .ok (.aload_n 0, 1) := by decide +kernel
theorem dX10_gardens_106 : decode cX10_gardens 106 = .ok (.bipush 60, 2) := by decide +kernel
theorem dX10_gardens_108 : decode cX10_gardens 108 = .ok (.iload_n 1, 1) := by decide +kernel
theorem dX10_gardens_109 : decode cX10_gardens 109 = .ok (.imul, 1) := by decide +kernel
theorem dX10_gardens_110 : decode cX10_gardens 110 = .ok (.iload_n 3, 1) := by decide +kernel
theorem dX10_gardens_111 : decode cX10_gardens 111 = .ok (.iadd, 1) := by decide +kernel
theorem dX10_gardens_112 : decode cX10_gardens 112 = .ok (.iload 4, 2) := by decide +kernel
theorem dX10_gardens_114 : decode cX10_gardens 114 = .ok (.invokevirtual 124, 3) := by decide +kernel
theorem dX10_gardens_117 : decode cX10_gardens 117 = .ok (.ifCond .ne 15, 3) := by decide +kernel
theorem dX10_gardens_120 : decode cX10_gardens 120 = .ok (.aload_n 0, 1) := by decide +kernel
theorem dX10_gardens_121 : decode cX10_gardens 121 = .ok (.bipush (-100), 2) := by decide +kernel
theorem dX10_gardens_123 : decode cX10_gardens 123 = .ok (.aload_n 0, 1) := by decide +kernel
theorem dX10_gardens_124 : decode cX10_gardens 124 = .ok (.getfield 88, 3) := by decide +kernel
theorem dX10_gardens_127 : decode cX10_gardens 127 = .ok (.isub, 1) := by decide +kernel
theorem dX10_gardens_128 : decode cX10_gardens 128 = .ok (.invokevirtual 111, 3) := by decide +kernel
theorem dX10_gardens_131 : decode cX10_gardens 131 = .ok (.ireturn, 1) := by decide +kernel
theorem dX10_gardens_132 : decode cX10_gardens 132 = .ok (.aload_n 0, 1) := by decide +kernel
theorem dX10_gardens_133 : decode cX10_gardens 133 = .ok (.aload_n 0, 1) := by decide +kernel
theorem dX10_gardens_134 : decode cX10_gardens 134 = .ok (.getfield 97, 3) := by decide +kernel
theorem dX10_gardens_137 : decode cX10_gardens 137 = .ok (.putfield 71, 3) := by decide +kernel
theorem dX10_gardens_140 : decode cX10_gardens 140 = .ok (.iconst 0, 1) := by decide +kernel
theorem dX10_gardens_141 : decode cX10_gardens 141 = .ok (.istore 5, 2) := by decide +kernel
theorem dX10_gardens_143 : decode cX10_gardens 143 = .ok (.iload 5, 2) := by decide +kernel
theorem dX10_gardens_145 : decode cX10_gardens 145 = .ok (.aload_n 0, 1) := by decide +kernel
theorem dX10_gardens_146 : decode cX10_gardens 146 = .ok (.getfield 71, 3) := by decide +kernel
theorem dX10_gardens_149 : decode cX10_gardens 149 = .ok (.if_icmp .ge 23, 3) := by decide +kernel
theorem dX10_gardens_152 : decode cX10_gardens 152 = .ok (.aload_n 0, 1) := by decide +kernel
theorem dX10_gardens_153 : decode cX10_gardens 153 = .ok (.getfield 7, 3) := by decide +kernel
theorem dX10_gardens_156 : decode cX10_gardens 156 = .ok (.iload 5, 2) := by decide +kernel
theorem dX10_gardens_158 : decode cX10_gardens 158 = .ok (.aload_n 0, 1) := by decide +kernel
theorem dX10_gardens_159 : decode cX10_gardens 159 = .ok (.getfield 25, 3) := by decide +kernel
theorem dX10_gardens_162 : decode cX10_gardens 162 = .ok (.iload 5, 2) := by decide +kernel
theorem dX10_gardens_164 : decode cX10_gardens 164 = .ok (.iaload, 1) := by decide +kernel
theorem dX10_gardens_165 : decode cX10_gardens 165 = .ok (.iastore, 1) := by decide +kernel
theorem dX10_gardens_166 : decode cX10_gardens 166 = .ok (.iinc 5 1, 3) := by decide +kernel
theorem dX10_gardens_169 : decode cX10_gardens 169 = .ok (.goto (-26), 3) := by decide +kernel
theorem dX10_gardens_172 : decode cX10_gardens 172 = .ok (.iconst 0, 1) := by decide +kernel
theorem dX10_gardens_173 : decode cX10_gardens 173 = .ok (.istore 5, 2) := by decide +kernel
theorem dX10_gardens_175 : decode cX10_gardens 175 = .ok (.iload 5, 2) := by decide +kernel
theorem dX10_gardens_177 : decode cX10_gardens 177 = .ok (.aload_n 0, 1) := by decide +kernel
theorem dX10_gardens_178 : decode cX10_gardens 178 = .ok (.invokevirtual 78, 3) := by decide +kernel
theorem dX10_gardens_181 : decode cX10_gardens 181 = .ok (.if_icmp .ge 37, 3) := by decide +kernel
theorem dX10_gardens_184 : decode cX10_gardens 184 = .ok (.aload_n 0, 1) := by decide +kernel
theorem dX10_gardens_185 : decode cX10_gardens 185 = .ok (.getfield 13, 3) := by decide +kernel
theorem dX10_gardens_188 : decode cX10_gardens 188 = .ok (.iload 5, 2) := by decide +kernel
theorem dX10_gardens_190 : decode cX10_gardens 190 = .ok (.aload_n 0, 1) := by decide +kernel
theorem dX10_gardens_191 : decode cX10_gardens 191 = .ok (.getfield 28, 3) := by decide +kernel
theorem dX10_gardens_194 : decode cX10_gardens 194 = .ok (.iload 5, 2) := by decide +kernel
theorem dX10_gardens_196 : decode cX10_gardens 196 = .ok (.iaload, 1) := by decide +kernel
theorem dX10_gardens_197 : decode cX10_gardens 197 = .ok (.iastore, 1) := by decide +kernel
theorem dX10_gardens_198 : decode cX10_gardens 198 = .ok (.aload_n 0, 1) := by decide +kernel
theorem dX10_gardens_199 : decode cX10_gardens 199 = .ok (.getfield 16, 3) := by decide +kernel
theorem dX10_gardens_202 : decode cX10_gardens 202 = .ok (.iload 5, 2) := by decide +kernel
theorem dX10_gardens_204 : decode cX10_gardens 204 = .ok (.aload_n 0, 1) := by decide +kernel
theorem dX10_gardens_205 : decode cX10_gardens 205 = .ok (.getfield 31, 3) := by decide +kernel
theorem dX10_gardens_208 : decode cX10_gardens 208 = .ok (.iload 5, 2) := by decide +kernel
theorem dX10_gardens_210 : decode cX10_gardens 210 = .ok (.iaload, 1) := by decide +kernel
theorem dX10_gardens_211 : decode cX10_gardens 211 = .ok (.iastore, 1) := by decide +kernel
theorem dX10_gardens_212 : decode cX10_gardens 212 = .ok (.iinc 5 1, 3) := by decide +kernel
theorem dX10_gardens_215 : decode cX10_gardens 215 = .ok (.goto (-40), 3) := by decide +kernel
theorem dX10_gardens_218 : decode cX10_gardens 218 = .ok (.iconst 0, 1) := by decide +kernel
theorem dX10_gardens_219 : decode cX10_gardens 219 = .ok (.istore 5, 2) := by decide +kernel
theorem dX10_gardens_221 : decode cX10_gardens 221 = .ok (.iload 5, 2) := by decide +kernel
theorem dX10_gardens_223 : decode cX10_gardens 223 = .ok (.sipush 420, 3) := by decide +kernel
theorem dX10_gardens_226 : decode cX10_gardens 226 = .ok (.if_icmp .ge 17, 3) := by decide +kernel
theorem dX10_gardens_229 : decode cX10_gardens 229 = .ok (.aload_n 0, 1) := by decide +kernel
theorem dX10_gardens_230 : decode cX10_gardens 230 = .ok (.getfield 19, 3) := by decide +kernel
theorem dX10_gardens_233 : decode cX10_gardens 233 = .ok (.iload 5, 2) := by decide +kernel
theorem dX10_gardens_235 : decode cX10_gardens 235 = .ok (.iconst 0, 1) := by decide +kernel
theorem dX10_gardens_236 : decode cX10_gardens 236 = .ok (.iastore, 1) := by decide +kernel
theorem dX10_gardens_237 : decode cX10_gardens 237 = .ok (.iinc 5 1, 3) := by decide +kernel
theorem dX10_gardens_240 : decode cX10_gardens 240 = .ok (.goto (-19), 3) := by decide +kernel
theorem dX10_gardens_243 : decode cX10_gardens 243 = .ok (.iconst 0, 1) := by decide +kernel
theorem dX10_gardens_244 : decode cX10_gardens 244 = .ok (.istore 5, 2) := by decide +kernel
theorem dX10_gardens_246 : decode cX10_gardens 246 = .ok (.iload 5, 2) := by decide +kernel
theorem dX10_gardens_248 : decode cX10_gardens 248 = .ok (.sipush 180, 3) := by decide +kernel
theorem dX10_gardens_251 : decode cX10_gardens 251 = .ok (.if_icmp .ge 18, 3) := by decide +kernel
theorem dX10_gardens_254 : decode cX10_gardens 254 = .ok (.aload_n 0, 1) := by decide +kernel
theorem dX10_gardens_255 : decode cX10_gardens 255 = .ok (.getfield 22, 3) := by decide +kernel
theorem dX10_gardens_258 : decode cX10_gardens 258 = .ok (.iload 5, 2) := by decide +kernel
theorem dX10_gardens_260 : decode cX10_gardens 260 = .ok (.bipush (-9), 2) := by decide +kernel
theorem dX10_gardens_262 : decode cX10_gardens 262 = .ok (.iastore, 1) := by decide +kernel
theorem dX10_gardens_263 : decode cX10_gardens 263 = .ok (.iinc 5 1, 3) := by decide +kernel
theorem dX10_gardens_266 : decode cX10_gardens 266 = .ok (.goto (-20), 3) := by decide +kernel
theorem dX10_gardens_269 : decode cX10_gardens 269 = .ok (.aload_n 0, 1) := by decide +kernel
theorem dX10_gardens_270 : decode cX10_gardens 270 = .ok (.iconst 0, 1) := by decide +kernel
theorem dX10_gardens_271 : decode cX10_gardens 271 = .ok (.putfield 127, 3) := by decide +kernel
theorem dX10_gardens_274 : decode cX10_gardens 274 = .ok (.aload_n 0, 1) := by decide +kernel
theorem dX10_gardens_275 : decode cX10_gardens 275 = .ok (.aload_n 0, 1) := by decide +kernel
theorem dX10_gardens_276 : decode cX10_gardens 276 = .ok (.getfield 71, 3) := by decide +kernel
theorem dX10_gardens_279 : decode cX10_gardens 279 = .ok (.invokevirtual 111, 3) := by decide +kernel
theorem dX10_gardens_282 : decode cX10_gardens 282 = .ok (.ireturn, 1) := by decide +kernel
theorem dX10_wants_0 : decode cX10_wants 0 = .ok (.aload_n 0, 1) := by decide +kernel
theorem dX10_wants_1 : decode cX10_wants 1 = .ok (.iload_n 1, 1) := by decide +kernel
theorem dX10_wants_2 : decode cX10_wants 2 = .ok (.invokevirtual 130, 3) := by decide +kernel
theorem dX10_wants_5 : decode cX10_wants 5 = .ok (.ifCond .eq 7, 3) := by decide +kernel
theorem dX10_wants_8 : decode cX10_wants 8 = .ok (.iconst (-1), 1) := by decide +kernel
theorem dX10_wants_9 : decode cX10_wants 9 = .ok (.goto 9, 3) := by decide +kernel
theorem dX10_wants_12 : decode cX10_wants 12 = .ok (.aload_n 0, 1) := by decide +kernel
theorem dX10_wants_13 : decode cX10_wants 13 = .ok (.getfield 7, 3) := by decide +kernel
theorem dX10_wants_16 : decode cX10_wants 16 = .ok (.iload_n 1, 1) := by decide +kernel
theorem dX10_wants_17 : decode cX10_wants 17 = .ok (.iaload, 1) := by decide +kernel
theorem dX10_wants_18 : decode cX10_wants 18 = .ok (.ireturn, 1) := by decide +kernel
theorem dX10_ofHedge_0 : decode cX10_ofHedge 0 = .ok (.aload_n 0, 1) := by decide +kernel
theorem dX10_ofHedge_1 : decode cX10_ofHedge 1 = .ok (.iload_n 1, 1) := by decide +kernel
theorem dX10_ofHedge_2 : decode cX10_ofHedge 2 = .ok (.invokevirtual 133, 3) := by decide +kernel
theorem dX10_ofHedge_5 : decode cX10_ofHedge 5 = .ok (.ifCond .eq 5, 3) := by decide +kernel
theorem dX10_ofHedge_8 : decode cX10_ofHedge 8 = .ok (.iconst (-1), 1) := by decide +kernel
theorem dX10_ofHedge_9 : decode cX10_ofHedge 9 = .ok (.ireturn, 1) := by decide +kernel
theorem dX10_ofHedge_10 : decode cX10_ofHedge 10 = .ok (.iload_n 2, 1) := by decide +kernel
theorem dX10_ofHedge_11 : decode cX10_ofHedge 11 = .ok (.ifCond .ne 12, 3) := by decide +kernel
theorem dX10_ofHedge_14 : decode cX10_ofHedge 14 = .ok (.aload_n 0, 1) := by decide +kernel
theorem dX10_ofHedge_15 : decode cX10_ofHedge 15 = .ok (.getfield 13, 3) := by decide +kernel
theorem dX10_ofHedge_18 : decode cX10_ofHedge 18 = .ok (.iload_n 1, 1) := by decide +kernel
theorem dX10_ofHedge_19 : decode cX10_ofHedge 19 = .ok (.iaload, 1) := by decide +kernel
theorem dX10_ofHedge_20 : decode cX10_ofHedge 20 = .ok (.goto 19, 3) := by decide +kernel
theorem dX10_ofHedge_23 : decode cX10_ofHedge 23 = .ok (.iload_n 2, 1) := by decide +kernel
theorem dX10_ofHedge_24 : decode cX10_ofHedge 24 = .ok (.iconst 1, 1) := by decide +kernel
theorem dX10_ofHedge_25 : decode cX10_ofHedge 25 = .ok (.if_icmp .ne 12, 3) := by decide +kernel
theorem dX10_ofHedge_28 : decode cX10_ofHedge 28 = .ok (.aload_n 0, 1) := by decide +kernel
theorem dX10_ofHedge_29 : decode cX10_ofHedge 29 = .ok (.getfield 16, 3) := by decide +kernel
theorem dX10_ofHedge_32 : decode cX10_ofHedge 32 = .ok (.iload_n 1, 1) := by decide +kernel
theorem dX10_ofHedge_33 : decode cX10_ofHedge 33 = .ok (.iaload, 1) := by decide +kernel
theorem dX10_ofHedge_34 : decode cX10_ofHedge 34 = .ok (.goto 5, 3) := by decide +kernel
theorem dX10_ofHedge_37 : decode cX10_ofHedge 37 = .ok (.bipush (-2), 2) := by decide +kernel
theorem dX10_ofHedge_39 : decode cX10_ofHedge 39 = .ok (.ireturn, 1) := by decide +kernel
theorem dX10_placeOf_0 : decode cX10_placeOf 0 = .ok (.bipush 60, 2) := by decide +kernel
theorem dX10_placeOf_2 : decode cX10_placeOf 2 = .ok (.iload_n 0, 1) := by decide +kernel
theorem dX10_placeOf_3 : decode cX10_placeOf 3 = .ok (.imul, 1) := by decide +kernel
theorem dX10_placeOf_4 : decode cX10_placeOf 4 = .ok (.bipush 30, 2) := by decide +kernel
theorem dX10_placeOf_6 : decode cX10_placeOf 6 = .ok (.iload_n 1, 1) := by decide +kernel
theorem dX10_placeOf_7 : decode cX10_placeOf 7 = .ok (.imul, 1) := by decide +kernel
theorem dX10_placeOf_8 : decode cX10_placeOf 8 = .ok (.iadd, 1) := by decide +kernel
theorem dX10_placeOf_9 : decode cX10_placeOf 9 = .ok (.iload_n 2, 1) := by decide +kernel
theorem dX10_placeOf_10 : decode cX10_placeOf 10 = .ok (.iadd, 1) := by decide +kernel
theorem dX10_placeOf_11 : decode cX10_placeOf 11 = .ok (.ireturn, 1) := by decide +kernel
theorem dX10_hedgeAt_0 : decode cX10_hedgeAt 0 = .ok (.iload_n 1, 1) := by decide +kernel
theorem dX10_hedgeAt_1 : decode cX10_hedgeAt 1 = .ok (.ifCond .ne 9, 3) := by decide +kernel
theorem dX10_hedgeAt_4 : decode cX10_hedgeAt 4 = .ok (.iload_n 0, 1) := by decide +kernel
theorem dX10_hedgeAt_5 : decode cX10_hedgeAt 5 = .ok (.iconst 1, 1) := by decide +kernel
theorem dX10_hedgeAt_6 : decode cX10_hedgeAt 6 = .ok (.isub, 1) := by decide +kernel
theorem dX10_hedgeAt_7 : decode cX10_hedgeAt 7 = .ok (.goto 4, 3) := by decide +kernel
theorem dX10_hedgeAt_10 : decode cX10_hedgeAt 10 = .ok (.iload_n 0, 1) := by decide +kernel
theorem dX10_hedgeAt_11 : decode cX10_hedgeAt 11 = .ok (.ireturn, 1) := by decide +kernel
theorem dX10_say_0 : decode cX10_say 0 = .ok (.aload_n 0, 1) := by decide +kernel
theorem dX10_say_1 : decode cX10_say 1 = .ok (.iload_n 1, 1) := by decide +kernel
theorem dX10_say_2 : decode cX10_say 2 = .ok (.invokevirtual 130, 3) := by decide +kernel
theorem dX10_say_5 : decode cX10_say 5 = .ok (.ifCond .eq 5, 3) := by decide +kernel
theorem dX10_say_8 : decode cX10_say 8 = .ok (.iconst (-1), 1) := by decide +kernel
theorem dX10_say_9 : decode cX10_say 9 = .ok (.ireturn, 1) := by decide +kernel
theorem dX10_say_10 : decode cX10_say 10 = .ok (.iload_n 2, 1) := by decide +kernel
theorem dX10_say_11 : decode cX10_say 11 = .ok (.invokestatic 136, 3) := by decide +kernel
theorem dX10_say_14 : decode cX10_say 14 = .ok (.ifCond .eq 25, 3) := by decide +kernel
theorem dX10_say_17 : decode cX10_say 17 = .ok (.iload_n 3, 1) := by decide +kernel
theorem dX10_say_18 : decode cX10_say 18 = .ok (.invokestatic 139, 3) := by decide +kernel
theorem dX10_say_21 : decode cX10_say 21 = .ok (.ifCond .eq 18, 3) := by decide +kernel
theorem dX10_say_24 : decode cX10_say 24 = .ok (.iload 4, 2) := by decide +kernel
theorem dX10_say_26 : decode cX10_say 26 = .ok (.i2l, 1) := by decide +kernel
theorem dX10_say_27 : decode cX10_say 27 = .ok (.ldc2_w 142, 3) := by decide +kernel
theorem dX10_say_30 : decode cX10_say 30 = .ok (.ldc2_w 144, 3) := by decide +kernel
theorem dX10_say_33 : decode cX10_say 33 = .ok (.invokestatic 74, 3) := by decide +kernel
theorem dX10_say_36 : decode cX10_say 36 = .ok (.ifCond .ne 6, 3) := by decide +kernel
theorem dX10_say_39 : decode cX10_say 39 = .ok (.bipush (-2), 2) := by decide +kernel
theorem dX10_say_41 : decode cX10_say 41 = .ok (.ireturn, 1) := by decide +kernel
theorem dX10_say_42 : decode cX10_say 42 = .ok (.aload_n 0, 1) := by decide +kernel
theorem dX10_say_43 : decode cX10_say 43 = .ok (.iload_n 1, 1) := by decide +kernel
theorem dX10_say_44 : decode cX10_say 44 = .ok (.iload_n 2, 1) := by decide +kernel
theorem dX10_say_45 : decode cX10_say 45 = .ok (.invokestatic 146, 3) := by decide +kernel
theorem dX10_say_48 : decode cX10_say 48 = .ok (.invokevirtual 133, 3) := by decide +kernel
theorem dX10_say_51 : decode cX10_say 51 = .ok (.ifCond .eq 5, 3) := by decide +kernel
theorem dX10_say_54 : decode cX10_say 54 = .ok (.iconst (-1), 1) := by decide +kernel
theorem dX10_say_55 : decode cX10_say 55 = .ok (.ireturn, 1) := by decide +kernel
theorem dX10_say_56 : decode cX10_say 56 = .ok (.aload_n 0, 1) := by decide +kernel
theorem dX10_say_57 : decode cX10_say 57 = .ok (.getfield 19, 3) := by decide +kernel
theorem dX10_say_60 : decode cX10_say 60 = .ok (.iload_n 1, 1) := by decide +kernel
theorem dX10_say_61 : decode cX10_say 61 = .ok (.iload_n 2, 1) := by decide +kernel
theorem dX10_say_62 : decode cX10_say 62 = .ok (.iload_n 3, 1) := by decide +kernel
theorem dX10_say_63 : decode cX10_say 63 = .ok (.invokestatic 149, 3) := by decide +kernel
theorem dX10_say_66 : decode cX10_say 66 = .ok (.iaload, 1) := by decide +kernel
theorem dX10_say_67 : decode cX10_say 67 = .ok (.istore 5, 2) := by decide +kernel
theorem dX10_say_69 : decode cX10_say 69 = .ok (.aload_n 0, 1) := by decide +kernel
theorem dX10_say_70 : decode cX10_say 70 = .ok (.getfield 19, 3) := by decide +kernel
theorem dX10_say_73 : decode cX10_say 73 = .ok (.iload_n 1, 1) := by decide +kernel
theorem dX10_say_74 : decode cX10_say 74 = .ok (.iload_n 2, 1) := by decide +kernel
theorem dX10_say_75 : decode cX10_say 75 = .ok (.iload_n 3, 1) := by decide +kernel
theorem dX10_say_76 : decode cX10_say 76 = .ok (.invokestatic 149, 3) := by decide +kernel
theorem dX10_say_79 : decode cX10_say 79 = .ok (.iload 4, 2) := by decide +kernel
theorem dX10_say_81 : decode cX10_say 81 = .ok (.iastore, 1) := by decide +kernel
theorem dX10_say_82 : decode cX10_say 82 = .ok (.iload 5, 2) := by decide +kernel
theorem dX10_say_84 : decode cX10_say 84 = .ok (.bipush 10, 2) := by decide +kernel
theorem dX10_say_86 : decode cX10_say 86 = .ok (.iadd, 1) := by decide +kernel
theorem dX10_say_87 : decode cX10_say 87 = .ok (.ireturn, 1) := by decide +kernel
theorem dX10_clip_0 : decode cX10_clip 0 = .ok (.aload_n 0, 1) := by decide +kernel
theorem dX10_clip_1 : decode cX10_clip 1 = .ok (.iload_n 1, 1) := by decide +kernel
theorem dX10_clip_2 : decode cX10_clip 2 = .ok (.invokevirtual 133, 3) := by decide +kernel
theorem dX10_clip_5 : decode cX10_clip 5 = .ok (.ifCond .eq 5, 3) := by decide +kernel
theorem dX10_clip_8 : decode cX10_clip 8 = .ok (.iconst (-1), 1) := by decide +kernel
theorem dX10_clip_9 : decode cX10_clip 9 = .ok (.ireturn, 1) := by decide +kernel
theorem dX10_clip_10 : decode cX10_clip 10 = .ok (.iload_n 2, 1) := by decide +kernel
theorem dX10_clip_11 : decode cX10_clip 11 = .ok (.invokestatic 139, 3) := by decide +kernel
theorem dX10_clip_14 : decode cX10_clip 14 = .ok (.ifCond .eq 16, 3) := by decide +kernel
theorem dX10_clip_17 : decode cX10_clip 17 = .ok (.iload_n 3, 1) := by decide +kernel
theorem dX10_clip_18 : decode cX10_clip 18 = .ok (.bipush (-9), 2) := by decide +kernel
theorem dX10_clip_20 : decode cX10_clip 20 = .ok (.if_icmp .eq 13, 3) := by decide +kernel
theorem dX10_clip_23 : decode cX10_clip 23 = .ok (.iload_n 3, 1) := by decide +kernel
theorem dX10_clip_24 : decode cX10_clip 24 = .ok (.invokestatic 153, 3) := by decide +kernel
theorem dX10_clip_27 : decode cX10_clip 27 = .ok (.ifCond .ne 6, 3) := by decide +kernel
theorem dX10_clip_30 : decode cX10_clip 30 = .ok (.bipush (-2), 2) := by decide +kernel
theorem dX10_clip_32 : decode cX10_clip 32 = .ok (.ireturn, 1) := by decide +kernel
theorem dX10_clip_33 : decode cX10_clip 33 = .ok (.aload_n 0, 1) := by decide +kernel
theorem dX10_clip_34 : decode cX10_clip 34 = .ok (.getfield 22, 3) := by decide +kernel
theorem dX10_clip_37 : decode cX10_clip 37 = .ok (.bipush 30, 2) := by decide +kernel
theorem dX10_clip_39 : decode cX10_clip 39 = .ok (.iload_n 1, 1) := by decide +kernel
theorem dX10_clip_40 : decode cX10_clip 40 = .ok (.imul, 1) := by decide +kernel
theorem dX10_clip_41 : decode cX10_clip 41 = .ok (.iload_n 2, 1) := by decide +kernel
theorem dX10_clip_42 : decode cX10_clip 42 = .ok (.iadd, 1) := by decide +kernel
theorem dX10_clip_43 : decode cX10_clip 43 = .ok (.iaload, 1) := by decide +kernel
theorem dX10_clip_44 : decode cX10_clip 44 = .ok (.istore 4, 2) := by decide +kernel
theorem dX10_clip_46 : decode cX10_clip 46 = .ok (.aload_n 0, 1) := by decide +kernel
theorem dX10_clip_47 : decode cX10_clip 47 = .ok (.getfield 22, 3) := by decide +kernel
theorem dX10_clip_50 : decode cX10_clip 50 = .ok (.bipush 30, 2) := by decide +kernel
theorem dX10_clip_52 : decode cX10_clip 52 = .ok (.iload_n 1, 1) := by decide +kernel
theorem dX10_clip_53 : decode cX10_clip 53 = .ok (.imul, 1) := by decide +kernel
theorem dX10_clip_54 : decode cX10_clip 54 = .ok (.iload_n 2, 1) := by decide +kernel
theorem dX10_clip_55 : decode cX10_clip 55 = .ok (.iadd, 1) := by decide +kernel
theorem dX10_clip_56 : decode cX10_clip 56 = .ok (.iload_n 3, 1) := by decide +kernel
theorem dX10_clip_57 : decode cX10_clip 57 = .ok (.iastore, 1) := by decide +kernel
theorem dX10_clip_58 : decode cX10_clip 58 = .ok (.iload 4, 2) := by decide +kernel
theorem dX10_clip_60 : decode cX10_clip 60 = .ok (.ireturn, 1) := by decide +kernel
theorem dX10_heardAt_0 : decode cX10_heardAt 0 = .ok (.iload_n 1, 1) := by decide +kernel
theorem dX10_heardAt_1 : decode cX10_heardAt 1 = .ok (.ifCond .ne 12, 3) := by decide +kernel
theorem dX10_heardAt_4 : decode cX10_heardAt 4 = .ok (.iload_n 0, 1) := by decide +kernel
theorem dX10_heardAt_5 : decode cX10_heardAt 5 = .ok (.iconst 1, 1) := by decide +kernel
theorem dX10_heardAt_6 : decode cX10_heardAt 6 = .ok (.iload_n 2, 1) := by decide +kernel
theorem dX10_heardAt_7 : decode cX10_heardAt 7 = .ok (.invokestatic 149, 3) := by decide +kernel
theorem dX10_heardAt_10 : decode cX10_heardAt 10 = .ok (.goto 11, 3) := by decide +kernel
theorem dX10_heardAt_13 : decode cX10_heardAt 13 = .ok (.iload_n 0, 1) := by decide +kernel
theorem dX10_heardAt_14 : decode cX10_heardAt 14 = .ok (.iconst 1, 1) := by decide +kernel
theorem dX10_heardAt_15 : decode cX10_heardAt 15 = .ok (.iadd, 1) := by decide +kernel
theorem dX10_heardAt_16 : decode cX10_heardAt 16 = .ok (.iconst 0, 1) := by decide +kernel
theorem dX10_heardAt_17 : decode cX10_heardAt 17 = .ok (.iload_n 2, 1) := by decide +kernel
theorem dX10_heardAt_18 : decode cX10_heardAt 18 = .ok (.invokestatic 149, 3) := by decide +kernel
theorem dX10_heardAt_21 : decode cX10_heardAt 21 = .ok (.ireturn, 1) := by decide +kernel
theorem dX10_bounded_0 : decode cX10_bounded 0 = .ok (.iload_n 0, 1) := by decide +kernel
theorem dX10_bounded_1 : decode cX10_bounded 1 = .ok (.ifCond .ge 7, 3) := by decide +kernel
theorem dX10_bounded_4 : decode cX10_bounded 4 = .ok (.iconst 0, 1) := by decide +kernel
theorem dX10_bounded_5 : decode cX10_bounded 5 = .ok (.goto 17, 3) := by decide +kernel
theorem dX10_bounded_8 : decode cX10_bounded 8 = .ok (.iload_n 0, 1) := by decide +kernel
theorem dX10_bounded_9 : decode cX10_bounded 9 = .ok (.sipush 240, 3) := by decide +kernel
theorem dX10_bounded_12 : decode cX10_bounded 12 = .ok (.if_icmp .le 9, 3) := by decide +kernel
theorem dX10_bounded_15 : decode cX10_bounded 15 = .ok (.sipush 240, 3) := by decide +kernel
theorem dX10_bounded_18 : decode cX10_bounded 18 = .ok (.goto 4, 3) := by decide +kernel
theorem dX10_bounded_21 : decode cX10_bounded 21 = .ok (.iload_n 0, 1) := by decide +kernel
theorem dX10_bounded_22 : decode cX10_bounded 22 = .ok (.ireturn, 1) := by decide +kernel
theorem dX10_grows_0 : decode cX10_grows 0 = .ok (.iload_n 1, 1) := by decide +kernel
theorem dX10_grows_1 : decode cX10_grows 1 = .ok (.ifCond .le 19, 3) := by decide +kernel
theorem dX10_grows_4 : decode cX10_grows 4 = .ok (.iload_n 0, 1) := by decide +kernel
theorem dX10_grows_5 : decode cX10_grows 5 = .ok (.ifCond .ne 10, 3) := by decide +kernel
theorem dX10_grows_8 : decode cX10_grows 8 = .ok (.bipush 12, 2) := by decide +kernel
theorem dX10_grows_10 : decode cX10_grows 10 = .ok (.iload_n 1, 1) := by decide +kernel
theorem dX10_grows_11 : decode cX10_grows 11 = .ok (.imul, 1) := by decide +kernel
theorem dX10_grows_12 : decode cX10_grows 12 = .ok (.goto 7, 3) := by decide +kernel
theorem dX10_grows_15 : decode cX10_grows 15 = .ok (.bipush 6, 2) := by decide +kernel
theorem dX10_grows_17 : decode cX10_grows 17 = .ok (.iload_n 1, 1) := by decide +kernel
theorem dX10_grows_18 : decode cX10_grows 18 = .ok (.imul, 1) := by decide +kernel
theorem dX10_grows_19 : decode cX10_grows 19 = .ok (.ireturn, 1) := by decide +kernel
theorem dX10_grows_20 : decode cX10_grows 20 = .ok (.iload_n 0, 1) := by decide +kernel
theorem dX10_grows_21 : decode cX10_grows 21 = .ok (.iconst 2, 1) := by decide +kernel
theorem dX10_grows_22 : decode cX10_grows 22 = .ok (.if_icmp .ne 14, 3) := by decide +kernel
theorem dX10_grows_25 : decode cX10_grows 25 = .ok (.iload_n 1, 1) := by decide +kernel
theorem dX10_grows_26 : decode cX10_grows 26 = .ok (.ifCond .ne 8, 3) := by decide +kernel
theorem dX10_grows_29 : decode cX10_grows 29 = .ok (.bipush (-6), 2) := by decide +kernel
theorem dX10_grows_31 : decode cX10_grows 31 = .ok (.goto 4, 3) := by decide +kernel
theorem dX10_grows_34 : decode cX10_grows 34 = .ok (.iconst 0, 1) := by decide +kernel
theorem dX10_grows_35 : decode cX10_grows 35 = .ok (.ireturn, 1) := by decide +kernel
theorem dX10_grows_36 : decode cX10_grows 36 = .ok (.iconst 3, 1) := by decide +kernel
theorem dX10_grows_37 : decode cX10_grows 37 = .ok (.iload_n 1, 1) := by decide +kernel
theorem dX10_grows_38 : decode cX10_grows 38 = .ok (.imul, 1) := by decide +kernel
theorem dX10_grows_39 : decode cX10_grows 39 = .ok (.ireturn, 1) := by decide +kernel
theorem dX10_faceAt_0 : decode cX10_faceAt 0 = .ok (.bipush 12, 2) := by decide +kernel
theorem dX10_faceAt_2 : decode cX10_faceAt 2 = .ok (.aload_n 0, 1) := by decide +kernel
theorem dX10_faceAt_3 : decode cX10_faceAt 3 = .ok (.getfield 16, 3) := by decide +kernel
theorem dX10_faceAt_6 : decode cX10_faceAt 6 = .ok (.iload_n 1, 1) := by decide +kernel
theorem dX10_faceAt_7 : decode cX10_faceAt 7 = .ok (.iaload, 1) := by decide +kernel
theorem dX10_faceAt_8 : decode cX10_faceAt 8 = .ok (.imul, 1) := by decide +kernel
theorem dX10_faceAt_9 : decode cX10_faceAt 9 = .ok (.istore 4, 2) := by decide +kernel
theorem dX10_faceAt_11 : decode cX10_faceAt 11 = .ok (.iconst 0, 1) := by decide +kernel
theorem dX10_faceAt_12 : decode cX10_faceAt 12 = .ok (.istore 5, 2) := by decide +kernel
theorem dX10_faceAt_14 : decode cX10_faceAt 14 = .ok (.iload 5, 2) := by decide +kernel
theorem dX10_faceAt_16 : decode cX10_faceAt 16 = .ok (.iload_n 3, 1) := by decide +kernel
theorem dX10_faceAt_17 : decode cX10_faceAt 17 = .ok (.if_icmp .ge 74, 3) := by decide +kernel
theorem dX10_faceAt_20 : decode cX10_faceAt 20 = .ok (.iload 4, 2) := by decide +kernel
theorem dX10_faceAt_22 : decode cX10_faceAt 22 = .ok (.aload_n 0, 1) := by decide +kernel
theorem dX10_faceAt_23 : decode cX10_faceAt 23 = .ok (.getfield 13, 3) := by decide +kernel
theorem dX10_faceAt_26 : decode cX10_faceAt 26 = .ok (.iload_n 1, 1) := by decide +kernel
theorem dX10_faceAt_27 : decode cX10_faceAt 27 = .ok (.iaload, 1) := by decide +kernel
theorem dX10_faceAt_28 : decode cX10_faceAt 28 = .ok (.aload_n 0, 1) := by decide +kernel
theorem dX10_faceAt_29 : decode cX10_faceAt 29 = .ok (.getfield 19, 3) := by decide +kernel
theorem dX10_faceAt_32 : decode cX10_faceAt 32 = .ok (.iload_n 1, 1) := by decide +kernel
theorem dX10_faceAt_33 : decode cX10_faceAt 33 = .ok (.iload_n 2, 1) := by decide +kernel
theorem dX10_faceAt_34 : decode cX10_faceAt 34 = .ok (.iload 5, 2) := by decide +kernel
theorem dX10_faceAt_36 : decode cX10_faceAt 36 = .ok (.invokestatic 156, 3) := by decide +kernel
theorem dX10_faceAt_39 : decode cX10_faceAt 39 = .ok (.iaload, 1) := by decide +kernel
theorem dX10_faceAt_40 : decode cX10_faceAt 40 = .ok (.invokestatic 159, 3) := by decide +kernel
theorem dX10_faceAt_43 : decode cX10_faceAt 43 = .ok (.iadd, 1) := by decide +kernel
theorem dX10_faceAt_44 : decode cX10_faceAt 44 = .ok (.invokestatic 162, 3) := by decide +kernel
theorem dX10_faceAt_47 : decode cX10_faceAt 47 = .ok (.istore 4, 2) := by decide +kernel
theorem dX10_faceAt_49 : decode cX10_faceAt 49 = .ok (.aload_n 0, 1) := by decide +kernel
theorem dX10_faceAt_50 : decode cX10_faceAt 50 = .ok (.getfield 22, 3) := by decide +kernel
theorem dX10_faceAt_53 : decode cX10_faceAt 53 = .ok (.bipush 30, 2) := by decide +kernel
theorem dX10_faceAt_55 : decode cX10_faceAt 55 = .ok (.iload_n 1, 1) := by decide +kernel
theorem dX10_faceAt_56 : decode cX10_faceAt 56 = .ok (.imul, 1) := by decide +kernel
theorem dX10_faceAt_57 : decode cX10_faceAt 57 = .ok (.iload 5, 2) := by decide +kernel
theorem dX10_faceAt_59 : decode cX10_faceAt 59 = .ok (.iadd, 1) := by decide +kernel
theorem dX10_faceAt_60 : decode cX10_faceAt 60 = .ok (.iaload, 1) := by decide +kernel
theorem dX10_faceAt_61 : decode cX10_faceAt 61 = .ok (.istore 6, 2) := by decide +kernel
theorem dX10_faceAt_63 : decode cX10_faceAt 63 = .ok (.iload 6, 2) := by decide +kernel
theorem dX10_faceAt_65 : decode cX10_faceAt 65 = .ok (.ifCond .lt 16, 3) := by decide +kernel
theorem dX10_faceAt_68 : decode cX10_faceAt 68 = .ok (.iload 4, 2) := by decide +kernel
theorem dX10_faceAt_70 : decode cX10_faceAt 70 = .ok (.bipush 12, 2) := by decide +kernel
theorem dX10_faceAt_72 : decode cX10_faceAt 72 = .ok (.iload 6, 2) := by decide +kernel
theorem dX10_faceAt_74 : decode cX10_faceAt 74 = .ok (.imul, 1) := by decide +kernel
theorem dX10_faceAt_75 : decode cX10_faceAt 75 = .ok (.invokestatic 165, 3) := by decide +kernel
theorem dX10_faceAt_78 : decode cX10_faceAt 78 = .ok (.goto 5, 3) := by decide +kernel
theorem dX10_faceAt_81 : decode cX10_faceAt 81 = .ok (.iload 4, 2) := by decide +kernel
theorem dX10_faceAt_83 : decode cX10_faceAt 83 = .ok (.istore 4, 2) := by decide +kernel
theorem dX10_faceAt_85 : decode cX10_faceAt 85 = .ok (.iinc 5 1, 3) := by decide +kernel
theorem dX10_faceAt_88 : decode cX10_faceAt 88 = .ok (.goto (-74), 3) := by decide +kernel
theorem dX10_faceAt_91 : decode cX10_faceAt 91 = .ok (.iload 4, 2) := by decide +kernel
theorem dX10_faceAt_93 : decode cX10_faceAt 93 = .ok (.ireturn, 1) := by decide +kernel
theorem dX10_face_0 : decode cX10_face 0 = .ok (.aload_n 0, 1) := by decide +kernel
theorem dX10_face_1 : decode cX10_face 1 = .ok (.iload_n 1, 1) := by decide +kernel
theorem dX10_face_2 : decode cX10_face 2 = .ok (.invokevirtual 133, 3) := by decide +kernel
theorem dX10_face_5 : decode cX10_face 5 = .ok (.ifCond .eq 5, 3) := by decide +kernel
theorem dX10_face_8 : decode cX10_face 8 = .ok (.iconst (-1), 1) := by decide +kernel
theorem dX10_face_9 : decode cX10_face 9 = .ok (.ireturn, 1) := by decide +kernel
theorem dX10_face_10 : decode cX10_face 10 = .ok (.iload_n 2, 1) := by decide +kernel
theorem dX10_face_11 : decode cX10_face 11 = .ok (.invokestatic 136, 3) := by decide +kernel
theorem dX10_face_14 : decode cX10_face 14 = .ok (.ifCond .eq 20, 3) := by decide +kernel
theorem dX10_face_17 : decode cX10_face 17 = .ok (.iload_n 3, 1) := by decide +kernel
theorem dX10_face_18 : decode cX10_face 18 = .ok (.invokestatic 168, 3) := by decide +kernel
theorem dX10_face_21 : decode cX10_face 21 = .ok (.ifCond .eq 13, 3) := by decide +kernel
theorem dX10_face_24 : decode cX10_face 24 = .ok (.aload_n 0, 1) := by decide +kernel
theorem dX10_face_25 : decode cX10_face 25 = .ok (.iload_n 1, 1) := by decide +kernel
theorem dX10_face_26 : decode cX10_face 26 = .ok (.iload_n 2, 1) := by decide +kernel
theorem dX10_face_27 : decode cX10_face 27 = .ok (.iload_n 3, 1) := by decide +kernel
theorem dX10_face_28 : decode cX10_face 28 = .ok (.invokevirtual 171, 3) := by decide +kernel
theorem dX10_face_31 : decode cX10_face 31 = .ok (.goto 5, 3) := by decide +kernel
theorem dX10_face_34 : decode cX10_face 34 = .ok (.bipush (-2), 2) := by decide +kernel
theorem dX10_face_36 : decode cX10_face 36 = .ok (.ireturn, 1) := by decide +kernel
theorem dX10_heightAt_0 : decode cX10_heightAt 0 = .ok (.aload_n 0, 1) := by decide +kernel
theorem dX10_heightAt_1 : decode cX10_heightAt 1 = .ok (.iload_n 1, 1) := by decide +kernel
theorem dX10_heightAt_2 : decode cX10_heightAt 2 = .ok (.iconst 0, 1) := by decide +kernel
theorem dX10_heightAt_3 : decode cX10_heightAt 3 = .ok (.iload_n 2, 1) := by decide +kernel
theorem dX10_heightAt_4 : decode cX10_heightAt 4 = .ok (.invokevirtual 171, 3) := by decide +kernel
theorem dX10_heightAt_7 : decode cX10_heightAt 7 = .ok (.aload_n 0, 1) := by decide +kernel
theorem dX10_heightAt_8 : decode cX10_heightAt 8 = .ok (.iload_n 1, 1) := by decide +kernel
theorem dX10_heightAt_9 : decode cX10_heightAt 9 = .ok (.iconst 1, 1) := by decide +kernel
theorem dX10_heightAt_10 : decode cX10_heightAt 10 = .ok (.iload_n 2, 1) := by decide +kernel
theorem dX10_heightAt_11 : decode cX10_heightAt 11 = .ok (.invokevirtual 171, 3) := by decide +kernel
theorem dX10_heightAt_14 : decode cX10_heightAt 14 = .ok (.invokestatic 165, 3) := by decide +kernel
theorem dX10_heightAt_17 : decode cX10_heightAt 17 = .ok (.ireturn, 1) := by decide +kernel
theorem dX10_height_0 : decode cX10_height 0 = .ok (.aload_n 0, 1) := by decide +kernel
theorem dX10_height_1 : decode cX10_height 1 = .ok (.iload_n 1, 1) := by decide +kernel
theorem dX10_height_2 : decode cX10_height 2 = .ok (.invokevirtual 133, 3) := by decide +kernel
theorem dX10_height_5 : decode cX10_height 5 = .ok (.ifCond .eq 5, 3) := by decide +kernel
theorem dX10_height_8 : decode cX10_height 8 = .ok (.iconst (-1), 1) := by decide +kernel
theorem dX10_height_9 : decode cX10_height 9 = .ok (.ireturn, 1) := by decide +kernel
theorem dX10_height_10 : decode cX10_height 10 = .ok (.iload_n 2, 1) := by decide +kernel
theorem dX10_height_11 : decode cX10_height 11 = .ok (.invokestatic 168, 3) := by decide +kernel
theorem dX10_height_14 : decode cX10_height 14 = .ok (.ifCond .eq 13, 3) := by decide +kernel
theorem dX10_height_17 : decode cX10_height 17 = .ok (.iload_n 3, 1) := by decide +kernel
theorem dX10_height_18 : decode cX10_height 18 = .ok (.i2l, 1) := by decide +kernel
theorem dX10_height_19 : decode cX10_height 19 = .ok (.lconst 0, 1) := by decide +kernel
theorem dX10_height_20 : decode cX10_height 20 = .ok (.lconst 1, 1) := by decide +kernel
theorem dX10_height_21 : decode cX10_height 21 = .ok (.invokestatic 74, 3) := by decide +kernel
theorem dX10_height_24 : decode cX10_height 24 = .ok (.ifCond .ne 6, 3) := by decide +kernel
theorem dX10_height_27 : decode cX10_height 27 = .ok (.bipush (-2), 2) := by decide +kernel
theorem dX10_height_29 : decode cX10_height 29 = .ok (.ireturn, 1) := by decide +kernel
theorem dX10_height_30 : decode cX10_height 30 = .ok (.iload_n 3, 1) := by decide +kernel
theorem dX10_height_31 : decode cX10_height 31 = .ok (.ifCond .ne 12, 3) := by decide +kernel
theorem dX10_height_34 : decode cX10_height 34 = .ok (.aload_n 0, 1) := by decide +kernel
theorem dX10_height_35 : decode cX10_height 35 = .ok (.iload_n 1, 1) := by decide +kernel
theorem dX10_height_36 : decode cX10_height 36 = .ok (.iload_n 2, 1) := by decide +kernel
theorem dX10_height_37 : decode cX10_height 37 = .ok (.invokevirtual 174, 3) := by decide +kernel
theorem dX10_height_40 : decode cX10_height 40 = .ok (.goto 22, 3) := by decide +kernel
theorem dX10_height_43 : decode cX10_height 43 = .ok (.aload_n 0, 1) := by decide +kernel
theorem dX10_height_44 : decode cX10_height 44 = .ok (.iload_n 1, 1) := by decide +kernel
theorem dX10_height_45 : decode cX10_height 45 = .ok (.iconst 0, 1) := by decide +kernel
theorem dX10_height_46 : decode cX10_height 46 = .ok (.iload_n 2, 1) := by decide +kernel
theorem dX10_height_47 : decode cX10_height 47 = .ok (.invokevirtual 171, 3) := by decide +kernel
theorem dX10_height_50 : decode cX10_height 50 = .ok (.aload_n 0, 1) := by decide +kernel
theorem dX10_height_51 : decode cX10_height 51 = .ok (.iload_n 1, 1) := by decide +kernel
theorem dX10_height_52 : decode cX10_height 52 = .ok (.iconst 1, 1) := by decide +kernel
theorem dX10_height_53 : decode cX10_height 53 = .ok (.iload_n 2, 1) := by decide +kernel
theorem dX10_height_54 : decode cX10_height 54 = .ok (.invokevirtual 171, 3) := by decide +kernel
theorem dX10_height_57 : decode cX10_height 57 = .ok (.isub, 1) := by decide +kernel
theorem dX10_height_58 : decode cX10_height 58 = .ok (.sipush 1000, 3) := by decide +kernel
theorem dX10_height_61 : decode cX10_height 61 = .ok (.iadd, 1) := by decide +kernel
theorem dX10_height_62 : decode cX10_height 62 = .ok (.ireturn, 1) := by decide +kernel
theorem dX10_lightAt_0 : decode cX10_lightAt 0 = .ok (.bipush 20, 2) := by decide +kernel
theorem dX10_lightAt_2 : decode cX10_lightAt 2 = .ok (.istore_n 3, 1) := by decide +kernel
theorem dX10_lightAt_3 : decode cX10_lightAt 3 = .ok (.iconst 0, 1) := by decide +kernel
theorem dX10_lightAt_4 : decode cX10_lightAt 4 = .ok (.istore 4, 2) := by decide +kernel
theorem dX10_lightAt_6 : decode cX10_lightAt 6 = .ok (.iload 4, 2) := by decide +kernel
theorem dX10_lightAt_8 : decode cX10_lightAt 8 = .ok (.iconst 2, 1) := by decide +kernel
theorem dX10_lightAt_9 : decode cX10_lightAt 9 = .ok (.if_icmp .ge 43, 3) := by decide +kernel
theorem dX10_lightAt_12 : decode cX10_lightAt 12 = .ok (.iload_n 1, 1) := by decide +kernel
theorem dX10_lightAt_13 : decode cX10_lightAt 13 = .ok (.iload 4, 2) := by decide +kernel
theorem dX10_lightAt_15 : decode cX10_lightAt 15 = .ok (.invokestatic 146, 3) := by decide +kernel
theorem dX10_lightAt_18 : decode cX10_lightAt 18 = .ok (.istore 5, 2) := by decide +kernel
theorem dX10_lightAt_20 : decode cX10_lightAt 20 = .ok (.iload_n 3, 1) := by decide +kernel
theorem dX10_lightAt_21 : decode cX10_lightAt 21 = .ok (.aload_n 0, 1) := by decide +kernel
theorem dX10_lightAt_22 : decode cX10_lightAt 22 = .ok (.iload 5, 2) := by decide +kernel
theorem dX10_lightAt_24 : decode cX10_lightAt 24 = .ok (.invokevirtual 133, 3) := by decide +kernel
theorem dX10_lightAt_27 : decode cX10_lightAt 27 = .ok (.ifCond .eq 7, 3) := by decide +kernel
theorem dX10_lightAt_30 : decode cX10_lightAt 30 = .ok (.iconst 0, 1) := by decide +kernel
theorem dX10_lightAt_31 : decode cX10_lightAt 31 = .ok (.goto 13, 3) := by decide +kernel
theorem dX10_lightAt_34 : decode cX10_lightAt 34 = .ok (.aload_n 0, 1) := by decide +kernel
theorem dX10_lightAt_35 : decode cX10_lightAt 35 = .ok (.iload 5, 2) := by decide +kernel
theorem dX10_lightAt_37 : decode cX10_lightAt 37 = .ok (.iload_n 2, 1) := by decide +kernel
theorem dX10_lightAt_38 : decode cX10_lightAt 38 = .ok (.invokevirtual 174, 3) := by decide +kernel
theorem dX10_lightAt_41 : decode cX10_lightAt 41 = .ok (.bipush 12, 2) := by decide +kernel
theorem dX10_lightAt_43 : decode cX10_lightAt 43 = .ok (.idiv, 1) := by decide +kernel
theorem dX10_lightAt_44 : decode cX10_lightAt 44 = .ok (.isub, 1) := by decide +kernel
theorem dX10_lightAt_45 : decode cX10_lightAt 45 = .ok (.istore_n 3, 1) := by decide +kernel
theorem dX10_lightAt_46 : decode cX10_lightAt 46 = .ok (.iinc 4 1, 3) := by decide +kernel
theorem dX10_lightAt_49 : decode cX10_lightAt 49 = .ok (.goto (-43), 3) := by decide +kernel
theorem dX10_lightAt_52 : decode cX10_lightAt 52 = .ok (.iload_n 3, 1) := by decide +kernel
theorem dX10_lightAt_53 : decode cX10_lightAt 53 = .ok (.ifCond .ge 7, 3) := by decide +kernel
theorem dX10_lightAt_56 : decode cX10_lightAt 56 = .ok (.iconst 0, 1) := by decide +kernel
theorem dX10_lightAt_57 : decode cX10_lightAt 57 = .ok (.goto 4, 3) := by decide +kernel
theorem dX10_lightAt_60 : decode cX10_lightAt 60 = .ok (.iload_n 3, 1) := by decide +kernel
theorem dX10_lightAt_61 : decode cX10_lightAt 61 = .ok (.ireturn, 1) := by decide +kernel
theorem dX10_light_0 : decode cX10_light 0 = .ok (.aload_n 0, 1) := by decide +kernel
theorem dX10_light_1 : decode cX10_light 1 = .ok (.iload_n 1, 1) := by decide +kernel
theorem dX10_light_2 : decode cX10_light 2 = .ok (.invokevirtual 130, 3) := by decide +kernel
theorem dX10_light_5 : decode cX10_light 5 = .ok (.ifCond .eq 5, 3) := by decide +kernel
theorem dX10_light_8 : decode cX10_light 8 = .ok (.iconst (-1), 1) := by decide +kernel
theorem dX10_light_9 : decode cX10_light 9 = .ok (.ireturn, 1) := by decide +kernel
theorem dX10_light_10 : decode cX10_light 10 = .ok (.iload_n 2, 1) := by decide +kernel
theorem dX10_light_11 : decode cX10_light 11 = .ok (.invokestatic 168, 3) := by decide +kernel
theorem dX10_light_14 : decode cX10_light 14 = .ok (.ifCond .eq 12, 3) := by decide +kernel
theorem dX10_light_17 : decode cX10_light 17 = .ok (.aload_n 0, 1) := by decide +kernel
theorem dX10_light_18 : decode cX10_light 18 = .ok (.iload_n 1, 1) := by decide +kernel
theorem dX10_light_19 : decode cX10_light 19 = .ok (.iload_n 2, 1) := by decide +kernel
theorem dX10_light_20 : decode cX10_light 20 = .ok (.invokevirtual 177, 3) := by decide +kernel
theorem dX10_light_23 : decode cX10_light 23 = .ok (.goto 5, 3) := by decide +kernel
theorem dX10_light_26 : decode cX10_light 26 = .ok (.bipush (-2), 2) := by decide +kernel
theorem dX10_light_28 : decode cX10_light 28 = .ok (.ireturn, 1) := by decide +kernel
theorem dX10_doGoatsCome_0 : decode cX10_doGoatsCome 0 = .ok (.iconst 1, 1) := by decide +kernel
theorem dX10_doGoatsCome_1 : decode cX10_doGoatsCome 1 = .ok (.istore_n 3, 1) := by decide +kernel
theorem dX10_doGoatsCome_2 : decode cX10_doGoatsCome 2 = .ok (.iconst 0, 1) := by decide +kernel
theorem dX10_doGoatsCome_3 : decode cX10_doGoatsCome 3 = .ok (.istore 4, 2) := by decide +kernel
theorem dX10_doGoatsCome_5 : decode cX10_doGoatsCome 5 = .ok (.iload 4, 2) := by decide +kernel
theorem dX10_doGoatsCome_7 : decode cX10_doGoatsCome 7 = .ok (.iload_n 1, 1) := by decide +kernel
theorem dX10_doGoatsCome_8 : decode cX10_doGoatsCome 8 = .ok (.if_icmp .ge 31, 3) := by decide +kernel
theorem dX10_doGoatsCome_11 : decode cX10_doGoatsCome 11 = .ok (.iload_n 3, 1) := by decide +kernel
theorem dX10_doGoatsCome_12 : decode cX10_doGoatsCome 12 = .ok (.ifCond .eq 27, 3) := by decide +kernel
theorem dX10_doGoatsCome_15 : decode cX10_doGoatsCome 15 = .ok (.aload_n 0, 1) := by decide +kernel
theorem dX10_doGoatsCome_16 : decode cX10_doGoatsCome 16 = .ok (.iload 4, 2) := by decide +kernel
theorem dX10_doGoatsCome_18 : decode cX10_doGoatsCome 18 = .ok (.iload_n 2, 1) := by decide +kernel
theorem dX10_doGoatsCome_19 : decode cX10_doGoatsCome 19 = .ok (.invokevirtual 174, 3) := by decide +kernel
theorem dX10_doGoatsCome_22 : decode cX10_doGoatsCome 22 = .ok (.bipush 36, 2) := by decide +kernel
theorem dX10_doGoatsCome_24 : decode cX10_doGoatsCome 24 = .ok (.if_icmp .ge 7, 3) := by decide +kernel
theorem dX10_doGoatsCome_27 : decode cX10_doGoatsCome 27 = .ok (.iconst 1, 1) := by decide +kernel
theorem dX10_doGoatsCome_28 : decode cX10_doGoatsCome 28 = .ok (.goto 4, 3) := by decide +kernel
theorem dX10_doGoatsCome_31 : decode cX10_doGoatsCome 31 = .ok (.iconst 0, 1) := by decide +kernel
theorem dX10_doGoatsCome_32 : decode cX10_doGoatsCome 32 = .ok (.istore_n 3, 1) := by decide +kernel
theorem dX10_doGoatsCome_33 : decode cX10_doGoatsCome 33 = .ok (.iinc 4 1, 3) := by decide +kernel
theorem dX10_doGoatsCome_36 : decode cX10_doGoatsCome 36 = .ok (.goto (-31), 3) := by decide +kernel
theorem dX10_doGoatsCome_39 : decode cX10_doGoatsCome 39 = .ok (.iload_n 3, 1) := by decide +kernel
theorem dX10_doGoatsCome_40 : decode cX10_doGoatsCome 40 = .ok (.ireturn, 1) := by decide +kernel
theorem dX10_goats_0 : decode cX10_goats 0 = .ok (.iload_n 1, 1) := by decide +kernel
theorem dX10_goats_1 : decode cX10_goats 1 = .ok (.invokestatic 168, 3) := by decide +kernel
theorem dX10_goats_4 : decode cX10_goats 4 = .ok (.ifCond .ne 6, 3) := by decide +kernel
theorem dX10_goats_7 : decode cX10_goats 7 = .ok (.bipush (-2), 2) := by decide +kernel
theorem dX10_goats_9 : decode cX10_goats 9 = .ok (.ireturn, 1) := by decide +kernel
theorem dX10_goats_10 : decode cX10_goats 10 = .ok (.aload_n 0, 1) := by decide +kernel
theorem dX10_goats_11 : decode cX10_goats 11 = .ok (.getfield 71, 3) := by decide +kernel
theorem dX10_goats_14 : decode cX10_goats 14 = .ok (.ifCond .ne 6, 3) := by decide +kernel
theorem dX10_goats_17 : decode cX10_goats 17 = .ok (.bipush (-3), 2) := by decide +kernel
theorem dX10_goats_19 : decode cX10_goats 19 = .ok (.ireturn, 1) := by decide +kernel
theorem dX10_goats_20 : decode cX10_goats 20 = .ok (.iconst 0, 1) := by decide +kernel
theorem dX10_goats_21 : decode cX10_goats 21 = .ok (.istore_n 2, 1) := by decide +kernel
theorem dX10_goats_22 : decode cX10_goats 22 = .ok (.iconst 0, 1) := by decide +kernel
theorem dX10_goats_23 : decode cX10_goats 23 = .ok (.istore_n 3, 1) := by decide +kernel
theorem dX10_goats_24 : decode cX10_goats 24 = .ok (.iload_n 3, 1) := by decide +kernel
theorem dX10_goats_25 : decode cX10_goats 25 = .ok (.aload_n 0, 1) := by decide +kernel
theorem dX10_goats_26 : decode cX10_goats 26 = .ok (.getfield 71, 3) := by decide +kernel
theorem dX10_goats_29 : decode cX10_goats 29 = .ok (.if_icmp .ge 28, 3) := by decide +kernel
theorem dX10_goats_32 : decode cX10_goats 32 = .ok (.iload_n 2, 1) := by decide +kernel
theorem dX10_goats_33 : decode cX10_goats 33 = .ok (.aload_n 0, 1) := by decide +kernel
theorem dX10_goats_34 : decode cX10_goats 34 = .ok (.iload_n 3, 1) := by decide +kernel
theorem dX10_goats_35 : decode cX10_goats 35 = .ok (.iload_n 1, 1) := by decide +kernel
theorem dX10_goats_36 : decode cX10_goats 36 = .ok (.invokevirtual 180, 3) := by decide +kernel
theorem dX10_goats_39 : decode cX10_goats 39 = .ok (.ifCond .eq 9, 3) := by decide +kernel
theorem dX10_goats_42 : decode cX10_goats 42 = .ok (.iconst 1, 1) := by decide +kernel
theorem dX10_goats_43 : decode cX10_goats 43 = .ok (.iload_n 3, 1) := by decide +kernel
theorem dX10_goats_44 : decode cX10_goats 44 = .ok (.ishl, 1) := by decide +kernel
theorem dX10_goats_45 : decode cX10_goats 45 = .ok (.goto 4, 3) := by decide +kernel
theorem dX10_goats_48 : decode cX10_goats 48 = .ok (.iconst 0, 1) := by decide +kernel
theorem dX10_goats_49 : decode cX10_goats 49 = .ok (.ior, 1) := by decide +kernel
theorem dX10_goats_50 : decode cX10_goats 50 = .ok (.istore_n 2, 1) := by decide +kernel
theorem dX10_goats_51 : decode cX10_goats 51 = .ok (.iinc 3 1, 3) := by decide +kernel
theorem dX10_goats_54 : decode cX10_goats 54 = .ok (.goto (-30), 3) := by decide +kernel
theorem dX10_goats_57 : decode cX10_goats 57 = .ok (.iload_n 2, 1) := by decide +kernel
theorem dX10_goats_58 : decode cX10_goats 58 = .ok (.ireturn, 1) := by decide +kernel
theorem dX10_offAt_0 : decode cX10_offAt 0 = .ok (.aload_n 0, 1) := by decide +kernel
theorem dX10_offAt_1 : decode cX10_offAt 1 = .ok (.iload_n 1, 1) := by decide +kernel
theorem dX10_offAt_2 : decode cX10_offAt 2 = .ok (.iload_n 2, 1) := by decide +kernel
theorem dX10_offAt_3 : decode cX10_offAt 3 = .ok (.invokevirtual 177, 3) := by decide +kernel
theorem dX10_offAt_6 : decode cX10_offAt 6 = .ok (.aload_n 0, 1) := by decide +kernel
theorem dX10_offAt_7 : decode cX10_offAt 7 = .ok (.getfield 7, 3) := by decide +kernel
theorem dX10_offAt_10 : decode cX10_offAt 10 = .ok (.iload_n 1, 1) := by decide +kernel
theorem dX10_offAt_11 : decode cX10_offAt 11 = .ok (.iaload, 1) := by decide +kernel
theorem dX10_offAt_12 : decode cX10_offAt 12 = .ok (.if_icmp .lt 7, 3) := by decide +kernel
theorem dX10_offAt_15 : decode cX10_offAt 15 = .ok (.iconst 1, 1) := by decide +kernel
theorem dX10_offAt_16 : decode cX10_offAt 16 = .ok (.goto 4, 3) := by decide +kernel
theorem dX10_offAt_19 : decode cX10_offAt 19 = .ok (.iconst 0, 1) := by decide +kernel
theorem dX10_offAt_20 : decode cX10_offAt 20 = .ok (.istore_n 3, 1) := by decide +kernel
theorem dX10_offAt_21 : decode cX10_offAt 21 = .ok (.aload_n 0, 1) := by decide +kernel
theorem dX10_offAt_22 : decode cX10_offAt 22 = .ok (.iload_n 1, 1) := by decide +kernel
theorem dX10_offAt_23 : decode cX10_offAt 23 = .ok (.iload_n 2, 1) := by decide +kernel
theorem dX10_offAt_24 : decode cX10_offAt 24 = .ok (.invokevirtual 180, 3) := by decide +kernel
theorem dX10_offAt_27 : decode cX10_offAt 27 = .ok (.ifCond .eq 7, 3) := by decide +kernel
theorem dX10_offAt_30 : decode cX10_offAt 30 = .ok (.iload_n 3, 1) := by decide +kernel
theorem dX10_offAt_31 : decode cX10_offAt 31 = .ok (.goto 6, 3) := by decide +kernel
theorem dX10_offAt_34 : decode cX10_offAt 34 = .ok (.iload_n 3, 1) := by decide +kernel
theorem dX10_offAt_35 : decode cX10_offAt 35 = .ok (.iconst 1, 1) := by decide +kernel
theorem dX10_offAt_36 : decode cX10_offAt 36 = .ok (.iadd, 1) := by decide +kernel
theorem dX10_offAt_37 : decode cX10_offAt 37 = .ok (.ireturn, 1) := by decide +kernel
theorem dX10_off_0 : decode cX10_off 0 = .ok (.aload_n 0, 1) := by decide +kernel
theorem dX10_off_1 : decode cX10_off 1 = .ok (.iload_n 1, 1) := by decide +kernel
theorem dX10_off_2 : decode cX10_off 2 = .ok (.invokevirtual 130, 3) := by decide +kernel
theorem dX10_off_5 : decode cX10_off 5 = .ok (.ifCond .eq 5, 3) := by decide +kernel
theorem dX10_off_8 : decode cX10_off 8 = .ok (.iconst (-1), 1) := by decide +kernel
theorem dX10_off_9 : decode cX10_off 9 = .ok (.ireturn, 1) := by decide +kernel
theorem dX10_off_10 : decode cX10_off 10 = .ok (.iload_n 2, 1) := by decide +kernel
theorem dX10_off_11 : decode cX10_off 11 = .ok (.invokestatic 168, 3) := by decide +kernel
theorem dX10_off_14 : decode cX10_off 14 = .ok (.ifCond .eq 12, 3) := by decide +kernel
theorem dX10_off_17 : decode cX10_off 17 = .ok (.aload_n 0, 1) := by decide +kernel
theorem dX10_off_18 : decode cX10_off 18 = .ok (.iload_n 1, 1) := by decide +kernel
theorem dX10_off_19 : decode cX10_off 19 = .ok (.iload_n 2, 1) := by decide +kernel
theorem dX10_off_20 : decode cX10_off 20 = .ok (.invokevirtual 183, 3) := by decide +kernel
theorem dX10_off_23 : decode cX10_off 23 = .ok (.goto 5, 3) := by decide +kernel
theorem dX10_off_26 : decode cX10_off 26 = .ok (.bipush (-2), 2) := by decide +kernel
theorem dX10_off_28 : decode cX10_off 28 = .ok (.ireturn, 1) := by decide +kernel
theorem dX10_enoughFor_0 : decode cX10_enoughFor 0 = .ok (.iload_n 3, 1) := by decide +kernel
theorem dX10_enoughFor_1 : decode cX10_enoughFor 1 = .ok (.iload 4, 2) := by decide +kernel
theorem dX10_enoughFor_3 : decode cX10_enoughFor 3 = .ok (.iload_n 1, 1) := by decide +kernel
theorem dX10_enoughFor_4 : decode cX10_enoughFor 4 = .ok (.invokestatic 156, 3) := by decide +kernel
theorem dX10_enoughFor_7 : decode cX10_enoughFor 7 = .ok (.istore 5, 2) := by decide +kernel
theorem dX10_enoughFor_9 : decode cX10_enoughFor 9 = .ok (.aload_n 0, 1) := by decide +kernel
theorem dX10_enoughFor_10 : decode cX10_enoughFor 10 = .ok (.getfield 19, 3) := by decide +kernel
theorem dX10_enoughFor_13 : decode cX10_enoughFor 13 = .ok (.iload 5, 2) := by decide +kernel
theorem dX10_enoughFor_15 : decode cX10_enoughFor 15 = .ok (.iaload, 1) := by decide +kernel
theorem dX10_enoughFor_16 : decode cX10_enoughFor 16 = .ok (.istore 6, 2) := by decide +kernel
theorem dX10_enoughFor_18 : decode cX10_enoughFor 18 = .ok (.bipush (-9), 2) := by decide +kernel
theorem dX10_enoughFor_20 : decode cX10_enoughFor 20 = .ok (.istore 7, 2) := by decide +kernel
theorem dX10_enoughFor_22 : decode cX10_enoughFor 22 = .ok (.iconst 3, 1) := by decide +kernel
theorem dX10_enoughFor_23 : decode cX10_enoughFor 23 = .ok (.istore 8, 2) := by decide +kernel
theorem dX10_enoughFor_25 : decode cX10_enoughFor 25 = .ok (.iload 8, 2) := by decide +kernel
theorem dX10_enoughFor_27 : decode cX10_enoughFor 27 = .ok (.iload 6, 2) := by decide +kernel
theorem dX10_enoughFor_29 : decode cX10_enoughFor 29 = .ok (.if_icmp .lt 43, 3) := by decide +kernel
theorem dX10_enoughFor_32 : decode cX10_enoughFor 32 = .ok (.aload_n 0, 1) := by decide +kernel
theorem dX10_enoughFor_33 : decode cX10_enoughFor 33 = .ok (.getfield 19, 3) := by decide +kernel
theorem dX10_enoughFor_36 : decode cX10_enoughFor 36 = .ok (.iload 5, 2) := by decide +kernel
theorem dX10_enoughFor_38 : decode cX10_enoughFor 38 = .ok (.iload 8, 2) := by decide +kernel
theorem dX10_enoughFor_40 : decode cX10_enoughFor 40 = .ok (.iastore, 1) := by decide +kernel
theorem dX10_enoughFor_41 : decode cX10_enoughFor 41 = .ok (.aload_n 0, 1) := by decide +kernel
theorem dX10_enoughFor_42 : decode cX10_enoughFor 42 = .ok (.iload_n 3, 1) := by decide +kernel
theorem dX10_enoughFor_43 : decode cX10_enoughFor 43 = .ok (.iload 4, 2) := by decide +kernel
theorem dX10_enoughFor_45 : decode cX10_enoughFor 45 = .ok (.bipush 30, 2) := by decide +kernel
theorem dX10_enoughFor_47 : decode cX10_enoughFor 47 = .ok (.invokevirtual 171, 3) := by decide +kernel
theorem dX10_enoughFor_50 : decode cX10_enoughFor 50 = .ok (.bipush 12, 2) := by decide +kernel
theorem dX10_enoughFor_52 : decode cX10_enoughFor 52 = .ok (.iload_n 2, 1) := by decide +kernel
theorem dX10_enoughFor_53 : decode cX10_enoughFor 53 = .ok (.imul, 1) := by decide +kernel
theorem dX10_enoughFor_54 : decode cX10_enoughFor 54 = .ok (.if_icmp .lt 8, 3) := by decide +kernel

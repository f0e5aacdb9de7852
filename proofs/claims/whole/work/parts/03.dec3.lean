theorem dX10_enoughFor_57 : decode cX10_enoughFor 57 = .ok (.iload 8, 2) := by decide +kernel
theorem dX10_enoughFor_59 : decode cX10_enoughFor 59 = .ok (.goto 5, 3) := by decide +kernel
theorem dX10_enoughFor_62 : decode cX10_enoughFor 62 = .ok (.iload 7, 2) := by decide +kernel
theorem dX10_enoughFor_64 : decode cX10_enoughFor 64 = .ok (.istore 7, 2) := by decide +kernel
theorem dX10_enoughFor_66 : decode cX10_enoughFor 66 = .ok (.iinc 8 (-1), 3) := by decide +kernel
theorem dX10_enoughFor_69 : decode cX10_enoughFor 69 = .ok (.goto (-44), 3) := by decide +kernel
theorem dX10_enoughFor_72 : decode cX10_enoughFor 72 = .ok (.aload_n 0, 1) := by decide +kernel
theorem dX10_enoughFor_73 : decode cX10_enoughFor 73 = .ok (.getfield 19, 3) := by decide +kernel
theorem dX10_enoughFor_76 : decode cX10_enoughFor 76 = .ok (.iload 5, 2) := by decide +kernel
theorem dX10_enoughFor_78 : decode cX10_enoughFor 78 = .ok (.iload 6, 2) := by decide +kernel
theorem dX10_enoughFor_80 : decode cX10_enoughFor 80 = .ok (.iastore, 1) := by decide +kernel
theorem dX10_enoughFor_81 : decode cX10_enoughFor 81 = .ok (.iload 7, 2) := by decide +kernel
theorem dX10_enoughFor_83 : decode cX10_enoughFor 83 = .ok (.ireturn, 1) := by decide +kernel
theorem dX10_scold_0 : decode cX10_scold 0 = .ok (.iload_n 3, 1) := by decide +kernel
theorem dX10_scold_1 : decode cX10_scold 1 = .ok (.iconst (-1), 1) := by decide +kernel
theorem dX10_scold_2 : decode cX10_scold 2 = .ok (.if_icmp .eq 13, 3) := by decide +kernel
theorem dX10_scold_5 : decode cX10_scold 5 = .ok (.aload_n 0, 1) := by decide +kernel
theorem dX10_scold_6 : decode cX10_scold 6 = .ok (.iload_n 3, 1) := by decide +kernel
theorem dX10_scold_7 : decode cX10_scold 7 = .ok (.invokevirtual 133, 3) := by decide +kernel
theorem dX10_scold_10 : decode cX10_scold 10 = .ok (.ifCond .eq 5, 3) := by decide +kernel
theorem dX10_scold_13 : decode cX10_scold 13 = .ok (.iconst (-1), 1) := by decide +kernel
theorem dX10_scold_14 : decode cX10_scold 14 = .ok (.ireturn, 1) := by decide +kernel
theorem dX10_scold_15 : decode cX10_scold 15 = .ok (.iload_n 1, 1) := by decide +kernel
theorem dX10_scold_16 : decode cX10_scold 16 = .ok (.invokestatic 139, 3) := by decide +kernel
theorem dX10_scold_19 : decode cX10_scold 19 = .ok (.ifCond .eq 18, 3) := by decide +kernel
theorem dX10_scold_22 : decode cX10_scold 22 = .ok (.iload_n 2, 1) := by decide +kernel
theorem dX10_scold_23 : decode cX10_scold 23 = .ok (.invokestatic 153, 3) := by decide +kernel
theorem dX10_scold_26 : decode cX10_scold 26 = .ok (.ifCond .eq 11, 3) := by decide +kernel
theorem dX10_scold_29 : decode cX10_scold 29 = .ok (.iload 4, 2) := by decide +kernel
theorem dX10_scold_31 : decode cX10_scold 31 = .ok (.invokestatic 136, 3) := by decide +kernel
theorem dX10_scold_34 : decode cX10_scold 34 = .ok (.ifCond .ne 6, 3) := by decide +kernel
theorem dX10_scold_37 : decode cX10_scold 37 = .ok (.bipush (-2), 2) := by decide +kernel
theorem dX10_scold_39 : decode cX10_scold 39 = .ok (.ireturn, 1) := by decide +kernel
theorem dX10_scold_40 : decode cX10_scold 40 = .ok (.aload_n 0, 1) := by decide +kernel
theorem dX10_scold_41 : decode cX10_scold 41 = .ok (.getfield 71, 3) := by decide +kernel
theorem dX10_scold_44 : decode cX10_scold 44 = .ok (.ifCond .ne 6, 3) := by decide +kernel
theorem dX10_scold_47 : decode cX10_scold 47 = .ok (.bipush (-3), 2) := by decide +kernel
theorem dX10_scold_49 : decode cX10_scold 49 = .ok (.ireturn, 1) := by decide +kernel
theorem dX10_scold_50 : decode cX10_scold 50 = .ok (.iload_n 3, 1) := by decide +kernel
theorem dX10_scold_51 : decode cX10_scold 51 = .ok (.ifCond .lt 32, 3) := by decide +kernel
theorem dX10_scold_54 : decode cX10_scold 54 = .ok (.aload_n 0, 1) := by decide +kernel
theorem dX10_scold_55 : decode cX10_scold 55 = .ok (.iload_n 1, 1) := by decide +kernel
theorem dX10_scold_56 : decode cX10_scold 56 = .ok (.iload_n 2, 1) := by decide +kernel
theorem dX10_scold_57 : decode cX10_scold 57 = .ok (.iload_n 3, 1) := by decide +kernel
theorem dX10_scold_58 : decode cX10_scold 58 = .ok (.iload 4, 2) := by decide +kernel
theorem dX10_scold_60 : decode cX10_scold 60 = .ok (.invokevirtual 186, 3) := by decide +kernel
theorem dX10_scold_63 : decode cX10_scold 63 = .ok (.istore 5, 2) := by decide +kernel
theorem dX10_scold_65 : decode cX10_scold 65 = .ok (.iload 5, 2) := by decide +kernel
theorem dX10_scold_67 : decode cX10_scold 67 = .ok (.bipush (-3), 2) := by decide +kernel
theorem dX10_scold_69 : decode cX10_scold 69 = .ok (.if_icmp .ge 8, 3) := by decide +kernel
theorem dX10_scold_72 : decode cX10_scold 72 = .ok (.bipush (-9), 2) := by decide +kernel
theorem dX10_scold_74 : decode cX10_scold 74 = .ok (.goto 8, 3) := by decide +kernel
theorem dX10_scold_77 : decode cX10_scold 77 = .ok (.iload 5, 2) := by decide +kernel
theorem dX10_scold_79 : decode cX10_scold 79 = .ok (.bipush 10, 2) := by decide +kernel
theorem dX10_scold_81 : decode cX10_scold 81 = .ok (.iadd, 1) := by decide +kernel
theorem dX10_scold_82 : decode cX10_scold 82 = .ok (.ireturn, 1) := by decide +kernel
theorem dX10_scold_83 : decode cX10_scold 83 = .ok (.iconst 0, 1) := by decide +kernel
theorem dX10_scold_84 : decode cX10_scold 84 = .ok (.istore 5, 2) := by decide +kernel
theorem dX10_scold_86 : decode cX10_scold 86 = .ok (.iconst 0, 1) := by decide +kernel
theorem dX10_scold_87 : decode cX10_scold 87 = .ok (.istore 6, 2) := by decide +kernel
theorem dX10_scold_89 : decode cX10_scold 89 = .ok (.iload 6, 2) := by decide +kernel
theorem dX10_scold_91 : decode cX10_scold 91 = .ok (.iconst 2, 1) := by decide +kernel
theorem dX10_scold_92 : decode cX10_scold 92 = .ok (.aload_n 0, 1) := by decide +kernel
theorem dX10_scold_93 : decode cX10_scold 93 = .ok (.invokevirtual 78, 3) := by decide +kernel
theorem dX10_scold_96 : decode cX10_scold 96 = .ok (.imul, 1) := by decide +kernel
theorem dX10_scold_97 : decode cX10_scold 97 = .ok (.if_icmp .ge 60, 3) := by decide +kernel
theorem dX10_scold_100 : decode cX10_scold 100 = .ok (.aload_n 0, 1) := by decide +kernel
theorem dX10_scold_101 : decode cX10_scold 101 = .ok (.iload_n 1, 1) := by decide +kernel
theorem dX10_scold_102 : decode cX10_scold 102 = .ok (.iload_n 2, 1) := by decide +kernel
theorem dX10_scold_103 : decode cX10_scold 103 = .ok (.iload 6, 2) := by decide +kernel
theorem dX10_scold_105 : decode cX10_scold 105 = .ok (.iconst 2, 1) := by decide +kernel
theorem dX10_scold_106 : decode cX10_scold 106 = .ok (.idiv, 1) := by decide +kernel
theorem dX10_scold_107 : decode cX10_scold 107 = .ok (.iload 6, 2) := by decide +kernel
theorem dX10_scold_109 : decode cX10_scold 109 = .ok (.iconst 2, 1) := by decide +kernel
theorem dX10_scold_110 : decode cX10_scold 110 = .ok (.irem, 1) := by decide +kernel
theorem dX10_scold_111 : decode cX10_scold 111 = .ok (.invokevirtual 186, 3) := by decide +kernel
theorem dX10_scold_114 : decode cX10_scold 114 = .ok (.istore 7, 2) := by decide +kernel
theorem dX10_scold_116 : decode cX10_scold 116 = .ok (.iload 7, 2) := by decide +kernel
theorem dX10_scold_118 : decode cX10_scold 118 = .ok (.bipush (-3), 2) := by decide +kernel
theorem dX10_scold_120 : decode cX10_scold 120 = .ok (.if_icmp .ge 6, 3) := by decide +kernel
theorem dX10_scold_123 : decode cX10_scold 123 = .ok (.bipush (-9), 2) := by decide +kernel
theorem dX10_scold_125 : decode cX10_scold 125 = .ok (.ireturn, 1) := by decide +kernel
theorem dX10_scold_126 : decode cX10_scold 126 = .ok (.iload 5, 2) := by decide +kernel
theorem dX10_scold_128 : decode cX10_scold 128 = .ok (.iload 7, 2) := by decide +kernel
theorem dX10_scold_130 : decode cX10_scold 130 = .ok (.aload_n 0, 1) := by decide +kernel
theorem dX10_scold_131 : decode cX10_scold 131 = .ok (.getfield 19, 3) := by decide +kernel
theorem dX10_scold_134 : decode cX10_scold 134 = .ok (.iload 6, 2) := by decide +kernel
theorem dX10_scold_136 : decode cX10_scold 136 = .ok (.iconst 2, 1) := by decide +kernel
theorem dX10_scold_137 : decode cX10_scold 137 = .ok (.idiv, 1) := by decide +kernel
theorem dX10_scold_138 : decode cX10_scold 138 = .ok (.iload 6, 2) := by decide +kernel
theorem dX10_scold_140 : decode cX10_scold 140 = .ok (.iconst 2, 1) := by decide +kernel
theorem dX10_scold_141 : decode cX10_scold 141 = .ok (.irem, 1) := by decide +kernel
theorem dX10_scold_142 : decode cX10_scold 142 = .ok (.iload_n 1, 1) := by decide +kernel
theorem dX10_scold_143 : decode cX10_scold 143 = .ok (.invokestatic 156, 3) := by decide +kernel
theorem dX10_scold_146 : decode cX10_scold 146 = .ok (.iaload, 1) := by decide +kernel
theorem dX10_scold_147 : decode cX10_scold 147 = .ok (.isub, 1) := by decide +kernel
theorem dX10_scold_148 : decode cX10_scold 148 = .ok (.iadd, 1) := by decide +kernel
theorem dX10_scold_149 : decode cX10_scold 149 = .ok (.istore 5, 2) := by decide +kernel
theorem dX10_scold_151 : decode cX10_scold 151 = .ok (.iinc 6 1, 3) := by decide +kernel
theorem dX10_scold_154 : decode cX10_scold 154 = .ok (.goto (-65), 3) := by decide +kernel
theorem dX10_scold_157 : decode cX10_scold 157 = .ok (.iload 5, 2) := by decide +kernel
theorem dX10_scold_159 : decode cX10_scold 159 = .ok (.ireturn, 1) := by decide +kernel
theorem dX10_reading_0 : decode cX10_reading 0 = .ok (.aload_n 0, 1) := by decide +kernel
theorem dX10_reading_1 : decode cX10_reading 1 = .ok (.iload_n 1, 1) := by decide +kernel
theorem dX10_reading_2 : decode cX10_reading 2 = .ok (.invokevirtual 133, 3) := by decide +kernel
theorem dX10_reading_5 : decode cX10_reading 5 = .ok (.ifCond .eq 5, 3) := by decide +kernel
theorem dX10_reading_8 : decode cX10_reading 8 = .ok (.iconst (-1), 1) := by decide +kernel
theorem dX10_reading_9 : decode cX10_reading 9 = .ok (.ireturn, 1) := by decide +kernel
theorem dX10_reading_10 : decode cX10_reading 10 = .ok (.iload_n 2, 1) := by decide +kernel
theorem dX10_reading_11 : decode cX10_reading 11 = .ok (.invokestatic 136, 3) := by decide +kernel
theorem dX10_reading_14 : decode cX10_reading 14 = .ok (.ifCond .eq 23, 3) := by decide +kernel
theorem dX10_reading_17 : decode cX10_reading 17 = .ok (.iload_n 3, 1) := by decide +kernel
theorem dX10_reading_18 : decode cX10_reading 18 = .ok (.invokestatic 168, 3) := by decide +kernel
theorem dX10_reading_21 : decode cX10_reading 21 = .ok (.ifCond .eq 16, 3) := by decide +kernel
theorem dX10_reading_24 : decode cX10_reading 24 = .ok (.iload 4, 2) := by decide +kernel
theorem dX10_reading_26 : decode cX10_reading 26 = .ok (.i2l, 1) := by decide +kernel
theorem dX10_reading_27 : decode cX10_reading 27 = .ok (.lconst 0, 1) := by decide +kernel
theorem dX10_reading_28 : decode cX10_reading 28 = .ok (.ldc2_w 190, 3) := by decide +kernel
theorem dX10_reading_31 : decode cX10_reading 31 = .ok (.invokestatic 74, 3) := by decide +kernel
theorem dX10_reading_34 : decode cX10_reading 34 = .ok (.ifCond .ne 6, 3) := by decide +kernel
theorem dX10_reading_37 : decode cX10_reading 37 = .ok (.bipush (-2), 2) := by decide +kernel
theorem dX10_reading_39 : decode cX10_reading 39 = .ok (.ireturn, 1) := by decide +kernel
theorem dX10_reading_40 : decode cX10_reading 40 = .ok (.aload_n 0, 1) := by decide +kernel
theorem dX10_reading_41 : decode cX10_reading 41 = .ok (.getfield 127, 3) := by decide +kernel
theorem dX10_reading_44 : decode cX10_reading 44 = .ok (.bipush 10, 2) := by decide +kernel
theorem dX10_reading_46 : decode cX10_reading 46 = .ok (.if_icmp .ne 6, 3) := by decide +kernel
theorem dX10_reading_49 : decode cX10_reading 49 = .ok (.bipush (-4), 2) := by decide +kernel
theorem dX10_reading_51 : decode cX10_reading 51 = .ok (.ireturn, 1) := by decide +kernel
theorem dX10_reading_52 : decode cX10_reading 52 = .ok (.aload_n 0, 1) := by decide +kernel
theorem dX10_reading_53 : decode cX10_reading 53 = .ok (.getfield 34, 3) := by decide +kernel
theorem dX10_reading_56 : decode cX10_reading 56 = .ok (.aload_n 0, 1) := by decide +kernel
theorem dX10_reading_57 : decode cX10_reading 57 = .ok (.getfield 127, 3) := by decide +kernel
theorem dX10_reading_60 : decode cX10_reading 60 = .ok (.iload_n 1, 1) := by decide +kernel
theorem dX10_reading_61 : decode cX10_reading 61 = .ok (.iastore, 1) := by decide +kernel
theorem dX10_reading_62 : decode cX10_reading 62 = .ok (.aload_n 0, 1) := by decide +kernel
theorem dX10_reading_63 : decode cX10_reading 63 = .ok (.getfield 37, 3) := by decide +kernel
theorem dX10_reading_66 : decode cX10_reading 66 = .ok (.aload_n 0, 1) := by decide +kernel
theorem dX10_reading_67 : decode cX10_reading 67 = .ok (.getfield 127, 3) := by decide +kernel
theorem dX10_reading_70 : decode cX10_reading 70 = .ok (.iload_n 2, 1) := by decide +kernel
theorem dX10_reading_71 : decode cX10_reading 71 = .ok (.iastore, 1) := by decide +kernel
theorem dX10_reading_72 : decode cX10_reading 72 = .ok (.aload_n 0, 1) := by decide +kernel
theorem dX10_reading_73 : decode cX10_reading 73 = .ok (.getfield 40, 3) := by decide +kernel
theorem dX10_reading_76 : decode cX10_reading 76 = .ok (.aload_n 0, 1) := by decide +kernel
theorem dX10_reading_77 : decode cX10_reading 77 = .ok (.getfield 127, 3) := by decide +kernel
theorem dX10_reading_80 : decode cX10_reading 80 = .ok (.iload_n 3, 1) := by decide +kernel
theorem dX10_reading_81 : decode cX10_reading 81 = .ok (.iastore, 1) := by decide +kernel
theorem dX10_reading_82 : decode cX10_reading 82 = .ok (.aload_n 0, 1) := by decide +kernel
theorem dX10_reading_83 : decode cX10_reading 83 = .ok (.getfield 43, 3) := by decide +kernel
theorem dX10_reading_86 : decode cX10_reading 86 = .ok (.aload_n 0, 1) := by decide +kernel
theorem dX10_reading_87 : decode cX10_reading 87 = .ok (.getfield 127, 3) := by decide +kernel
theorem dX10_reading_90 : decode cX10_reading 90 = .ok (.iload 4, 2) := by decide +kernel
theorem dX10_reading_92 : decode cX10_reading 92 = .ok (.iastore, 1) := by decide +kernel
theorem dX10_reading_93 : decode cX10_reading 93 = .ok (.aload_n 0, 1) := by decide +kernel
theorem dX10_reading_94 : decode cX10_reading 94 = .ok (.dup, 1) := by decide +kernel
theorem dX10_reading_95 : decode cX10_reading 95 = .ok (.getfield 127, 3) := by decide +kernel
theorem dX10_reading_98 : decode cX10_reading 98 = .ok (.iconst 1, 1) := by decide +kernel
theorem dX10_reading_99 : decode cX10_reading 99 = .ok (.iadd, 1) := by decide +kernel
theorem dX10_reading_100 : decode cX10_reading 100 = .ok (.putfield 127, 3) := by decide +kernel
theorem dX10_reading_103 : decode cX10_reading 103 = .ok (.aload_n 0, 1) := by decide +kernel
theorem dX10_reading_104 : decode cX10_reading 104 = .ok (.getfield 127, 3) := by decide +kernel
theorem dX10_reading_107 : decode cX10_reading 107 = .ok (.iconst 1, 1) := by decide +kernel
theorem dX10_reading_108 : decode cX10_reading 108 = .ok (.isub, 1) := by decide +kernel
theorem dX10_reading_109 : decode cX10_reading 109 = .ok (.ireturn, 1) := by decide +kernel
theorem dX10_back_0 : decode cX10_back 0 = .ok (.iload_n 1, 1) := by decide +kernel
theorem dX10_back_1 : decode cX10_back 1 = .ok (.i2l, 1) := by decide +kernel
theorem dX10_back_2 : decode cX10_back 2 = .ok (.lconst 0, 1) := by decide +kernel
theorem dX10_back_3 : decode cX10_back 3 = .ok (.aload_n 0, 1) := by decide +kernel
theorem dX10_back_4 : decode cX10_back 4 = .ok (.getfield 127, 3) := by decide +kernel
theorem dX10_back_7 : decode cX10_back 7 = .ok (.i2l, 1) := by decide +kernel
theorem dX10_back_8 : decode cX10_back 8 = .ok (.invokestatic 74, 3) := by decide +kernel
theorem dX10_back_11 : decode cX10_back 11 = .ok (.ifCond .ne 6, 3) := by decide +kernel
theorem dX10_back_14 : decode cX10_back 14 = .ok (.bipush (-2), 2) := by decide +kernel
theorem dX10_back_16 : decode cX10_back 16 = .ok (.ireturn, 1) := by decide +kernel
theorem dX10_back_17 : decode cX10_back 17 = .ok (.aload_n 0, 1) := by decide +kernel
theorem dX10_back_18 : decode cX10_back 18 = .ok (.dup, 1) := by decide +kernel
theorem dX10_back_19 : decode cX10_back 19 = .ok (.getfield 127, 3) := by decide +kernel
theorem dX10_back_22 : decode cX10_back 22 = .ok (.iload_n 1, 1) := by decide +kernel
theorem dX10_back_23 : decode cX10_back 23 = .ok (.isub, 1) := by decide +kernel
theorem dX10_back_24 : decode cX10_back 24 = .ok (.putfield 127, 3) := by decide +kernel
theorem dX10_back_27 : decode cX10_back 27 = .ok (.aload_n 0, 1) := by decide +kernel
theorem dX10_back_28 : decode cX10_back 28 = .ok (.getfield 127, 3) := by decide +kernel
theorem dX10_back_31 : decode cX10_back 31 = .ok (.ireturn, 1) := by decide +kernel
theorem dX10_areSo_0 : decode cX10_areSo 0 = .ok (.iconst 1, 1) := by decide +kernel
theorem dX10_areSo_1 : decode cX10_areSo 1 = .ok (.istore_n 1, 1) := by decide +kernel
theorem dX10_areSo_2 : decode cX10_areSo 2 = .ok (.iconst 0, 1) := by decide +kernel
theorem dX10_areSo_3 : decode cX10_areSo 3 = .ok (.istore_n 2, 1) := by decide +kernel
theorem dX10_areSo_4 : decode cX10_areSo 4 = .ok (.iload_n 2, 1) := by decide +kernel
theorem dX10_areSo_5 : decode cX10_areSo 5 = .ok (.aload_n 0, 1) := by decide +kernel
theorem dX10_areSo_6 : decode cX10_areSo 6 = .ok (.getfield 127, 3) := by decide +kernel
theorem dX10_areSo_9 : decode cX10_areSo 9 = .ok (.if_icmp .ge 50, 3) := by decide +kernel
theorem dX10_areSo_12 : decode cX10_areSo 12 = .ok (.iload_n 1, 1) := by decide +kernel
theorem dX10_areSo_13 : decode cX10_areSo 13 = .ok (.ifCond .eq 46, 3) := by decide +kernel
theorem dX10_areSo_16 : decode cX10_areSo 16 = .ok (.aload_n 0, 1) := by decide +kernel
theorem dX10_areSo_17 : decode cX10_areSo 17 = .ok (.aload_n 0, 1) := by decide +kernel
theorem dX10_areSo_18 : decode cX10_areSo 18 = .ok (.getfield 34, 3) := by decide +kernel
theorem dX10_areSo_21 : decode cX10_areSo 21 = .ok (.iload_n 2, 1) := by decide +kernel
theorem dX10_areSo_22 : decode cX10_areSo 22 = .ok (.iaload, 1) := by decide +kernel
theorem dX10_areSo_23 : decode cX10_areSo 23 = .ok (.aload_n 0, 1) := by decide +kernel
theorem dX10_areSo_24 : decode cX10_areSo 24 = .ok (.getfield 37, 3) := by decide +kernel
theorem dX10_areSo_27 : decode cX10_areSo 27 = .ok (.iload_n 2, 1) := by decide +kernel
theorem dX10_areSo_28 : decode cX10_areSo 28 = .ok (.iaload, 1) := by decide +kernel
theorem dX10_areSo_29 : decode cX10_areSo 29 = .ok (.aload_n 0, 1) := by decide +kernel
theorem dX10_areSo_30 : decode cX10_areSo 30 = .ok (.getfield 40, 3) := by decide +kernel
theorem dX10_areSo_33 : decode cX10_areSo 33 = .ok (.iload_n 2, 1) := by decide +kernel
theorem dX10_areSo_34 : decode cX10_areSo 34 = .ok (.iaload, 1) := by decide +kernel
theorem dX10_areSo_35 : decode cX10_areSo 35 = .ok (.invokevirtual 171, 3) := by decide +kernel
theorem dX10_areSo_38 : decode cX10_areSo 38 = .ok (.aload_n 0, 1) := by decide +kernel
theorem dX10_areSo_39 : decode cX10_areSo 39 = .ok (.getfield 43, 3) := by decide +kernel
theorem dX10_areSo_42 : decode cX10_areSo 42 = .ok (.iload_n 2, 1) := by decide +kernel
theorem dX10_areSo_43 : decode cX10_areSo 43 = .ok (.iaload, 1) := by decide +kernel
theorem dX10_areSo_44 : decode cX10_areSo 44 = .ok (.if_icmp .ne 7, 3) := by decide +kernel
theorem dX10_areSo_47 : decode cX10_areSo 47 = .ok (.iconst 1, 1) := by decide +kernel
theorem dX10_areSo_48 : decode cX10_areSo 48 = .ok (.goto 4, 3) := by decide +kernel
theorem dX10_areSo_51 : decode cX10_areSo 51 = .ok (.iconst 0, 1) := by decide +kernel
theorem dX10_areSo_52 : decode cX10_areSo 52 = .ok (.istore_n 1, 1) := by decide +kernel
theorem dX10_areSo_53 : decode cX10_areSo 53 = .ok (.iinc 2 1, 3) := by decide +kernel
theorem dX10_areSo_56 : decode cX10_areSo 56 = .ok (.goto (-52), 3) := by decide +kernel
theorem dX10_areSo_59 : decode cX10_areSo 59 = .ok (.iload_n 1, 1) := by decide +kernel
theorem dX10_areSo_60 : decode cX10_areSo 60 = .ok (.ireturn, 1) := by decide +kernel
theorem dX10_said_0 : decode cX10_said 0 = .ok (.aload_n 0, 1) := by decide +kernel
theorem dX10_said_1 : decode cX10_said 1 = .ok (.iload_n 1, 1) := by decide +kernel
theorem dX10_said_2 : decode cX10_said 2 = .ok (.invokevirtual 130, 3) := by decide +kernel
theorem dX10_said_5 : decode cX10_said 5 = .ok (.ifCond .eq 5, 3) := by decide +kernel
theorem dX10_said_8 : decode cX10_said 8 = .ok (.iconst (-1), 1) := by decide +kernel
theorem dX10_said_9 : decode cX10_said 9 = .ok (.ireturn, 1) := by decide +kernel
theorem dX10_said_10 : decode cX10_said 10 = .ok (.iload_n 2, 1) := by decide +kernel
theorem dX10_said_11 : decode cX10_said 11 = .ok (.invokestatic 136, 3) := by decide +kernel
theorem dX10_said_14 : decode cX10_said 14 = .ok (.ifCond .eq 10, 3) := by decide +kernel
theorem dX10_said_17 : decode cX10_said 17 = .ok (.iload_n 3, 1) := by decide +kernel
theorem dX10_said_18 : decode cX10_said 18 = .ok (.invokestatic 139, 3) := by decide +kernel
theorem dX10_said_21 : decode cX10_said 21 = .ok (.ifCond .ne 6, 3) := by decide +kernel
theorem dX10_said_24 : decode cX10_said 24 = .ok (.bipush (-2), 2) := by decide +kernel
theorem dX10_said_26 : decode cX10_said 26 = .ok (.ireturn, 1) := by decide +kernel
theorem dX10_said_27 : decode cX10_said 27 = .ok (.aload_n 0, 1) := by decide +kernel
theorem dX10_said_28 : decode cX10_said 28 = .ok (.iload_n 1, 1) := by decide +kernel
theorem dX10_said_29 : decode cX10_said 29 = .ok (.iload_n 2, 1) := by decide +kernel
theorem dX10_said_30 : decode cX10_said 30 = .ok (.invokestatic 146, 3) := by decide +kernel
theorem dX10_said_33 : decode cX10_said 33 = .ok (.invokevirtual 133, 3) := by decide +kernel
theorem dX10_said_36 : decode cX10_said 36 = .ok (.ifCond .eq 5, 3) := by decide +kernel
theorem dX10_said_39 : decode cX10_said 39 = .ok (.iconst (-1), 1) := by decide +kernel
theorem dX10_said_40 : decode cX10_said 40 = .ok (.ireturn, 1) := by decide +kernel
theorem dX10_said_41 : decode cX10_said 41 = .ok (.iload_n 1, 1) := by decide +kernel
theorem dX10_said_42 : decode cX10_said 42 = .ok (.iload_n 2, 1) := by decide +kernel
theorem dX10_said_43 : decode cX10_said 43 = .ok (.iload_n 3, 1) := by decide +kernel
theorem dX10_said_44 : decode cX10_said 44 = .ok (.invokestatic 149, 3) := by decide +kernel
theorem dX10_said_47 : decode cX10_said 47 = .ok (.istore 4, 2) := by decide +kernel
theorem dX10_said_49 : decode cX10_said 49 = .ok (.aload_n 0, 1) := by decide +kernel
theorem dX10_said_50 : decode cX10_said 50 = .ok (.getfield 19, 3) := by decide +kernel
theorem dX10_said_53 : decode cX10_said 53 = .ok (.iload 4, 2) := by decide +kernel
theorem dX10_said_55 : decode cX10_said 55 = .ok (.iaload, 1) := by decide +kernel
theorem dX10_said_56 : decode cX10_said 56 = .ok (.istore 5, 2) := by decide +kernel
theorem dX10_said_58 : decode cX10_said 58 = .ok (.iconst 0, 1) := by decide +kernel
theorem dX10_said_59 : decode cX10_said 59 = .ok (.istore 6, 2) := by decide +kernel
theorem dX10_said_61 : decode cX10_said 61 = .ok (.bipush (-3), 2) := by decide +kernel
theorem dX10_said_63 : decode cX10_said 63 = .ok (.istore 7, 2) := by decide +kernel
theorem dX10_said_65 : decode cX10_said 65 = .ok (.iload 7, 2) := by decide +kernel
theorem dX10_said_67 : decode cX10_said 67 = .ok (.iconst 4, 1) := by decide +kernel
theorem dX10_said_68 : decode cX10_said 68 = .ok (.if_icmp .ge 40, 3) := by decide +kernel
theorem dX10_said_71 : decode cX10_said 71 = .ok (.aload_n 0, 1) := by decide +kernel
theorem dX10_said_72 : decode cX10_said 72 = .ok (.getfield 19, 3) := by decide +kernel
theorem dX10_said_75 : decode cX10_said 75 = .ok (.iload 4, 2) := by decide +kernel
theorem dX10_said_77 : decode cX10_said 77 = .ok (.iload 7, 2) := by decide +kernel
theorem dX10_said_79 : decode cX10_said 79 = .ok (.iastore, 1) := by decide +kernel
theorem dX10_said_80 : decode cX10_said 80 = .ok (.iload 6, 2) := by decide +kernel
theorem dX10_said_82 : decode cX10_said 82 = .ok (.aload_n 0, 1) := by decide +kernel
theorem dX10_said_83 : decode cX10_said 83 = .ok (.invokevirtual 192, 3) := by decide +kernel
theorem dX10_said_86 : decode cX10_said 86 = .ok (.ifCond .eq 12, 3) := by decide +kernel
theorem dX10_said_89 : decode cX10_said 89 = .ok (.iconst 1, 1) := by decide +kernel
theorem dX10_said_90 : decode cX10_said 90 = .ok (.iconst 3, 1) := by decide +kernel
theorem dX10_said_91 : decode cX10_said 91 = .ok (.iload 7, 2) := by decide +kernel
theorem dX10_said_93 : decode cX10_said 93 = .ok (.iadd, 1) := by decide +kernel
theorem dX10_said_94 : decode cX10_said 94 = .ok (.ishl, 1) := by decide +kernel
theorem dX10_said_95 : decode cX10_said 95 = .ok (.goto 4, 3) := by decide +kernel
theorem dX10_said_98 : decode cX10_said 98 = .ok (.iconst 0, 1) := by decide +kernel
theorem dX10_said_99 : decode cX10_said 99 = .ok (.ior, 1) := by decide +kernel
theorem dX10_said_100 : decode cX10_said 100 = .ok (.istore 6, 2) := by decide +kernel
theorem dX10_said_102 : decode cX10_said 102 = .ok (.iinc 7 1, 3) := by decide +kernel
theorem dX10_said_105 : decode cX10_said 105 = .ok (.goto (-40), 3) := by decide +kernel
theorem dX10_said_108 : decode cX10_said 108 = .ok (.aload_n 0, 1) := by decide +kernel
theorem dX10_said_109 : decode cX10_said 109 = .ok (.getfield 19, 3) := by decide +kernel
theorem dX10_said_112 : decode cX10_said 112 = .ok (.iload 4, 2) := by decide +kernel
theorem dX10_said_114 : decode cX10_said 114 = .ok (.iload 5, 2) := by decide +kernel
theorem dX10_said_116 : decode cX10_said 116 = .ok (.iastore, 1) := by decide +kernel
theorem dX10_said_117 : decode cX10_said 117 = .ok (.iload 6, 2) := by decide +kernel
theorem dX10_said_119 : decode cX10_said 119 = .ok (.ireturn, 1) := by decide +kernel
theorem dX10_chosenFor_0 : decode cX10_chosenFor 0 = .ok (.aload_n 0, 1) := by decide +kernel
theorem dX10_chosenFor_1 : decode cX10_chosenFor 1 = .ok (.getfield 19, 3) := by decide +kernel
theorem dX10_chosenFor_4 : decode cX10_chosenFor 4 = .ok (.iload_n 2, 1) := by decide +kernel
theorem dX10_chosenFor_5 : decode cX10_chosenFor 5 = .ok (.iaload, 1) := by decide +kernel
theorem dX10_chosenFor_6 : decode cX10_chosenFor 6 = .ok (.istore 4, 2) := by decide +kernel
theorem dX10_chosenFor_8 : decode cX10_chosenFor 8 = .ok (.iconst 0, 1) := by decide +kernel
theorem dX10_chosenFor_9 : decode cX10_chosenFor 9 = .ok (.istore 5, 2) := by decide +kernel
theorem dX10_chosenFor_11 : decode cX10_chosenFor 11 = .ok (.aload_n 0, 1) := by decide +kernel
theorem dX10_chosenFor_12 : decode cX10_chosenFor 12 = .ok (.getfield 19, 3) := by decide +kernel
theorem dX10_chosenFor_15 : decode cX10_chosenFor 15 = .ok (.iload_n 2, 1) := by decide +kernel
theorem dX10_chosenFor_16 : decode cX10_chosenFor 16 = .ok (.iconst 0, 1) := by decide +kernel
theorem dX10_chosenFor_17 : decode cX10_chosenFor 17 = .ok (.iastore, 1) := by decide +kernel
theorem dX10_chosenFor_18 : decode cX10_chosenFor 18 = .ok (.aload_n 0, 1) := by decide +kernel
theorem dX10_chosenFor_19 : decode cX10_chosenFor 19 = .ok (.iload_n 1, 1) := by decide +kernel
theorem dX10_chosenFor_20 : decode cX10_chosenFor 20 = .ok (.iload_n 3, 1) := by decide +kernel
theorem dX10_chosenFor_21 : decode cX10_chosenFor 21 = .ok (.invokevirtual 183, 3) := by decide +kernel
theorem dX10_chosenFor_24 : decode cX10_chosenFor 24 = .ok (.istore 6, 2) := by decide +kernel
theorem dX10_chosenFor_26 : decode cX10_chosenFor 26 = .ok (.iconst (-1), 1) := by decide +kernel
theorem dX10_chosenFor_27 : decode cX10_chosenFor 27 = .ok (.istore 7, 2) := by decide +kernel
theorem dX10_chosenFor_29 : decode cX10_chosenFor 29 = .ok (.iload 7, 2) := by decide +kernel
theorem dX10_chosenFor_31 : decode cX10_chosenFor 31 = .ok (.iconst 2, 1) := by decide +kernel
theorem dX10_chosenFor_32 : decode cX10_chosenFor 32 = .ok (.if_icmp .ge 40, 3) := by decide +kernel
theorem dX10_chosenFor_35 : decode cX10_chosenFor 35 = .ok (.aload_n 0, 1) := by decide +kernel
theorem dX10_chosenFor_36 : decode cX10_chosenFor 36 = .ok (.getfield 19, 3) := by decide +kernel
theorem dX10_chosenFor_39 : decode cX10_chosenFor 39 = .ok (.iload_n 2, 1) := by decide +kernel
theorem dX10_chosenFor_40 : decode cX10_chosenFor 40 = .ok (.iload 7, 2) := by decide +kernel
theorem dX10_chosenFor_42 : decode cX10_chosenFor 42 = .ok (.iastore, 1) := by decide +kernel
theorem dX10_chosenFor_43 : decode cX10_chosenFor 43 = .ok (.aload_n 0, 1) := by decide +kernel
theorem dX10_chosenFor_44 : decode cX10_chosenFor 44 = .ok (.iload_n 1, 1) := by decide +kernel
theorem dX10_chosenFor_45 : decode cX10_chosenFor 45 = .ok (.iload_n 3, 1) := by decide +kernel
theorem dX10_chosenFor_46 : decode cX10_chosenFor 46 = .ok (.invokevirtual 183, 3) := by decide +kernel
theorem dX10_chosenFor_49 : decode cX10_chosenFor 49 = .ok (.istore 8, 2) := by decide +kernel
theorem dX10_chosenFor_51 : decode cX10_chosenFor 51 = .ok (.iload 8, 2) := by decide +kernel
theorem dX10_chosenFor_53 : decode cX10_chosenFor 53 = .ok (.iload 6, 2) := by decide +kernel
theorem dX10_chosenFor_55 : decode cX10_chosenFor 55 = .ok (.if_icmp .le 11, 3) := by decide +kernel
theorem dX10_chosenFor_58 : decode cX10_chosenFor 58 = .ok (.iload 7, 2) := by decide +kernel
theorem dX10_chosenFor_60 : decode cX10_chosenFor 60 = .ok (.istore 5, 2) := by decide +kernel
theorem dX10_chosenFor_62 : decode cX10_chosenFor 62 = .ok (.iload 8, 2) := by decide +kernel
theorem dX10_chosenFor_64 : decode cX10_chosenFor 64 = .ok (.istore 6, 2) := by decide +kernel
theorem dX10_chosenFor_66 : decode cX10_chosenFor 66 = .ok (.iinc 7 2, 3) := by decide +kernel
theorem dX10_chosenFor_69 : decode cX10_chosenFor 69 = .ok (.goto (-40), 3) := by decide +kernel
theorem dX10_chosenFor_72 : decode cX10_chosenFor 72 = .ok (.aload_n 0, 1) := by decide +kernel
theorem dX10_chosenFor_73 : decode cX10_chosenFor 73 = .ok (.getfield 19, 3) := by decide +kernel
theorem dX10_chosenFor_76 : decode cX10_chosenFor 76 = .ok (.iload_n 2, 1) := by decide +kernel
theorem dX10_chosenFor_77 : decode cX10_chosenFor 77 = .ok (.iload 4, 2) := by decide +kernel
theorem dX10_chosenFor_79 : decode cX10_chosenFor 79 = .ok (.iastore, 1) := by decide +kernel
theorem dX10_chosenFor_80 : decode cX10_chosenFor 80 = .ok (.iload 5, 2) := by decide +kernel
theorem dX10_chosenFor_82 : decode cX10_chosenFor 82 = .ok (.ireturn, 1) := by decide +kernel
theorem dX10_quarrel_0 : decode cX10_quarrel 0 = .ok (.aload_n 0, 1) := by decide +kernel
theorem dX10_quarrel_1 : decode cX10_quarrel 1 = .ok (.iload_n 1, 1) := by decide +kernel
theorem dX10_quarrel_2 : decode cX10_quarrel 2 = .ok (.invokevirtual 133, 3) := by decide +kernel
theorem dX10_quarrel_5 : decode cX10_quarrel 5 = .ok (.ifCond .eq 5, 3) := by decide +kernel
theorem dX10_quarrel_8 : decode cX10_quarrel 8 = .ok (.iconst (-1), 1) := by decide +kernel
theorem dX10_quarrel_9 : decode cX10_quarrel 9 = .ok (.ireturn, 1) := by decide +kernel
theorem dX10_quarrel_10 : decode cX10_quarrel 10 = .ok (.iload_n 2, 1) := by decide +kernel
theorem dX10_quarrel_11 : decode cX10_quarrel 11 = .ok (.invokestatic 139, 3) := by decide +kernel
theorem dX10_quarrel_14 : decode cX10_quarrel 14 = .ok (.ifCond .eq 23, 3) := by decide +kernel
theorem dX10_quarrel_17 : decode cX10_quarrel 17 = .ok (.iload_n 3, 1) := by decide +kernel
theorem dX10_quarrel_18 : decode cX10_quarrel 18 = .ok (.invokestatic 139, 3) := by decide +kernel
theorem dX10_quarrel_21 : decode cX10_quarrel 21 = .ok (.ifCond .eq 16, 3) := by decide +kernel
theorem dX10_quarrel_24 : decode cX10_quarrel 24 = .ok (.iload_n 3, 1) := by decide +kernel
theorem dX10_quarrel_25 : decode cX10_quarrel 25 = .ok (.iload_n 2, 1) := by decide +kernel
theorem dX10_quarrel_26 : decode cX10_quarrel 26 = .ok (.if_icmp .lt 11, 3) := by decide +kernel
theorem dX10_quarrel_29 : decode cX10_quarrel 29 = .ok (.iload 4, 2) := by decide +kernel
theorem dX10_quarrel_31 : decode cX10_quarrel 31 = .ok (.invokestatic 136, 3) := by decide +kernel
theorem dX10_quarrel_34 : decode cX10_quarrel 34 = .ok (.ifCond .ne 6, 3) := by decide +kernel
theorem dX10_quarrel_37 : decode cX10_quarrel 37 = .ok (.bipush (-2), 2) := by decide +kernel
theorem dX10_quarrel_39 : decode cX10_quarrel 39 = .ok (.ireturn, 1) := by decide +kernel
theorem dX10_quarrel_40 : decode cX10_quarrel 40 = .ok (.iconst 0, 1) := by decide +kernel
theorem dX10_quarrel_41 : decode cX10_quarrel 41 = .ok (.istore 5, 2) := by decide +kernel
theorem dX10_quarrel_43 : decode cX10_quarrel 43 = .ok (.iload 5, 2) := by decide +kernel
theorem dX10_quarrel_45 : decode cX10_quarrel 45 = .ok (.bipush 30, 2) := by decide +kernel
theorem dX10_quarrel_47 : decode cX10_quarrel 47 = .ok (.if_icmp .ge 50, 3) := by decide +kernel
theorem dX10_quarrel_50 : decode cX10_quarrel 50 = .ok (.aload_n 0, 1) := by decide +kernel
theorem dX10_quarrel_51 : decode cX10_quarrel 51 = .ok (.getfield 46, 3) := by decide +kernel
theorem dX10_quarrel_54 : decode cX10_quarrel 54 = .ok (.iload 5, 2) := by decide +kernel
theorem dX10_quarrel_56 : decode cX10_quarrel 56 = .ok (.aload_n 0, 1) := by decide +kernel
theorem dX10_quarrel_57 : decode cX10_quarrel 57 = .ok (.getfield 19, 3) := by decide +kernel
theorem dX10_quarrel_60 : decode cX10_quarrel 60 = .ok (.iload_n 1, 1) := by decide +kernel
theorem dX10_quarrel_61 : decode cX10_quarrel 61 = .ok (.iconst 0, 1) := by decide +kernel
theorem dX10_quarrel_62 : decode cX10_quarrel 62 = .ok (.iload 5, 2) := by decide +kernel
theorem dX10_quarrel_64 : decode cX10_quarrel 64 = .ok (.invokestatic 156, 3) := by decide +kernel
theorem dX10_quarrel_67 : decode cX10_quarrel 67 = .ok (.iaload, 1) := by decide +kernel
theorem dX10_quarrel_68 : decode cX10_quarrel 68 = .ok (.iastore, 1) := by decide +kernel
theorem dX10_quarrel_69 : decode cX10_quarrel 69 = .ok (.aload_n 0, 1) := by decide +kernel
theorem dX10_quarrel_70 : decode cX10_quarrel 70 = .ok (.getfield 46, 3) := by decide +kernel
theorem dX10_quarrel_73 : decode cX10_quarrel 73 = .ok (.bipush 30, 2) := by decide +kernel
theorem dX10_quarrel_75 : decode cX10_quarrel 75 = .ok (.iload 5, 2) := by decide +kernel
theorem dX10_quarrel_77 : decode cX10_quarrel 77 = .ok (.iadd, 1) := by decide +kernel
theorem dX10_quarrel_78 : decode cX10_quarrel 78 = .ok (.aload_n 0, 1) := by decide +kernel
theorem dX10_quarrel_79 : decode cX10_quarrel 79 = .ok (.getfield 19, 3) := by decide +kernel
theorem dX10_quarrel_82 : decode cX10_quarrel 82 = .ok (.iload_n 1, 1) := by decide +kernel
theorem dX10_quarrel_83 : decode cX10_quarrel 83 = .ok (.iconst 1, 1) := by decide +kernel
theorem dX10_quarrel_84 : decode cX10_quarrel 84 = .ok (.iload 5, 2) := by decide +kernel
theorem dX10_quarrel_86 : decode cX10_quarrel 86 = .ok (.invokestatic 156, 3) := by decide +kernel
theorem dX10_quarrel_89 : decode cX10_quarrel 89 = .ok (.iaload, 1) := by decide +kernel
theorem dX10_quarrel_90 : decode cX10_quarrel 90 = .ok (.iastore, 1) := by decide +kernel
theorem dX10_quarrel_91 : decode cX10_quarrel 91 = .ok (.iinc 5 1, 3) := by decide +kernel
theorem dX10_quarrel_94 : decode cX10_quarrel 94 = .ok (.goto (-51), 3) := by decide +kernel
theorem dX10_quarrel_97 : decode cX10_quarrel 97 = .ok (.iconst 0, 1) := by decide +kernel
theorem dX10_quarrel_98 : decode cX10_quarrel 98 = .ok (.istore 5, 2) := by decide +kernel
theorem dX10_quarrel_100 : decode cX10_quarrel 100 = .ok (.iload_n 2, 1) := by decide +kernel
theorem dX10_quarrel_101 : decode cX10_quarrel 101 = .ok (.istore 6, 2) := by decide +kernel
theorem dX10_quarrel_103 : decode cX10_quarrel 103 = .ok (.iload 6, 2) := by decide +kernel
theorem dX10_quarrel_105 : decode cX10_quarrel 105 = .ok (.iload_n 3, 1) := by decide +kernel
theorem dX10_quarrel_106 : decode cX10_quarrel 106 = .ok (.if_icmp .gt 103, 3) := by decide +kernel
theorem dX10_quarrel_109 : decode cX10_quarrel 109 = .ok (.iload_n 1, 1) := by decide +kernel
theorem dX10_quarrel_110 : decode cX10_quarrel 110 = .ok (.iconst 0, 1) := by decide +kernel
theorem dX10_quarrel_111 : decode cX10_quarrel 111 = .ok (.iload 6, 2) := by decide +kernel
theorem dX10_quarrel_113 : decode cX10_quarrel 113 = .ok (.invokestatic 156, 3) := by decide +kernel
theorem dX10_quarrel_116 : decode cX10_quarrel 116 = .ok (.istore 7, 2) := by decide +kernel
theorem dX10_quarrel_118 : decode cX10_quarrel 118 = .ok (.iload_n 1, 1) := by decide +kernel
theorem dX10_quarrel_119 : decode cX10_quarrel 119 = .ok (.iconst 1, 1) := by decide +kernel
theorem dX10_quarrel_120 : decode cX10_quarrel 120 = .ok (.iload 6, 2) := by decide +kernel
theorem dX10_quarrel_122 : decode cX10_quarrel 122 = .ok (.invokestatic 156, 3) := by decide +kernel
theorem dX10_quarrel_125 : decode cX10_quarrel 125 = .ok (.istore 8, 2) := by decide +kernel
theorem dX10_quarrel_127 : decode cX10_quarrel 127 = .ok (.aload_n 0, 1) := by decide +kernel
theorem dX10_quarrel_128 : decode cX10_quarrel 128 = .ok (.getfield 19, 3) := by decide +kernel
theorem dX10_quarrel_131 : decode cX10_quarrel 131 = .ok (.iload 7, 2) := by decide +kernel
theorem dX10_quarrel_133 : decode cX10_quarrel 133 = .ok (.iconst 0, 1) := by decide +kernel
theorem dX10_quarrel_134 : decode cX10_quarrel 134 = .ok (.iastore, 1) := by decide +kernel
theorem dX10_quarrel_135 : decode cX10_quarrel 135 = .ok (.aload_n 0, 1) := by decide +kernel
theorem dX10_quarrel_136 : decode cX10_quarrel 136 = .ok (.getfield 19, 3) := by decide +kernel
theorem dX10_quarrel_139 : decode cX10_quarrel 139 = .ok (.iload 8, 2) := by decide +kernel
theorem dX10_quarrel_141 : decode cX10_quarrel 141 = .ok (.iconst 0, 1) := by decide +kernel
theorem dX10_quarrel_142 : decode cX10_quarrel 142 = .ok (.iastore, 1) := by decide +kernel
theorem dX10_quarrel_143 : decode cX10_quarrel 143 = .ok (.aload_n 0, 1) := by decide +kernel
theorem dX10_quarrel_144 : decode cX10_quarrel 144 = .ok (.iload_n 1, 1) := by decide +kernel
theorem dX10_quarrel_145 : decode cX10_quarrel 145 = .ok (.iload 7, 2) := by decide +kernel
theorem dX10_quarrel_147 : decode cX10_quarrel 147 = .ok (.iload 6, 2) := by decide +kernel
theorem dX10_quarrel_149 : decode cX10_quarrel 149 = .ok (.iconst 1, 1) := by decide +kernel
theorem dX10_quarrel_150 : decode cX10_quarrel 150 = .ok (.iadd, 1) := by decide +kernel
theorem dX10_quarrel_151 : decode cX10_quarrel 151 = .ok (.invokevirtual 196, 3) := by decide +kernel
theorem dX10_quarrel_154 : decode cX10_quarrel 154 = .ok (.istore 9, 2) := by decide +kernel
theorem dX10_quarrel_156 : decode cX10_quarrel 156 = .ok (.aload_n 0, 1) := by decide +kernel
theorem dX10_quarrel_157 : decode cX10_quarrel 157 = .ok (.iload_n 1, 1) := by decide +kernel
theorem dX10_quarrel_158 : decode cX10_quarrel 158 = .ok (.iconst 1, 1) := by decide +kernel
theorem dX10_quarrel_159 : decode cX10_quarrel 159 = .ok (.iadd, 1) := by decide +kernel
theorem dX10_quarrel_160 : decode cX10_quarrel 160 = .ok (.iload 8, 2) := by decide +kernel
theorem dX10_quarrel_162 : decode cX10_quarrel 162 = .ok (.iload 6, 2) := by decide +kernel
theorem dX10_quarrel_164 : decode cX10_quarrel 164 = .ok (.iconst 1, 1) := by decide +kernel
theorem dX10_quarrel_165 : decode cX10_quarrel 165 = .ok (.iadd, 1) := by decide +kernel
theorem dX10_quarrel_166 : decode cX10_quarrel 166 = .ok (.invokevirtual 196, 3) := by decide +kernel
theorem dX10_quarrel_169 : decode cX10_quarrel 169 = .ok (.istore 10, 2) := by decide +kernel
theorem dX10_quarrel_171 : decode cX10_quarrel 171 = .ok (.aload_n 0, 1) := by decide +kernel
theorem dX10_quarrel_172 : decode cX10_quarrel 172 = .ok (.getfield 19, 3) := by decide +kernel
theorem dX10_quarrel_175 : decode cX10_quarrel 175 = .ok (.iload 7, 2) := by decide +kernel
theorem dX10_quarrel_177 : decode cX10_quarrel 177 = .ok (.iload 9, 2) := by decide +kernel
theorem dX10_quarrel_179 : decode cX10_quarrel 179 = .ok (.iastore, 1) := by decide +kernel
theorem dX10_quarrel_180 : decode cX10_quarrel 180 = .ok (.aload_n 0, 1) := by decide +kernel
theorem dX10_quarrel_181 : decode cX10_quarrel 181 = .ok (.getfield 19, 3) := by decide +kernel
theorem dX10_quarrel_184 : decode cX10_quarrel 184 = .ok (.iload 8, 2) := by decide +kernel
theorem dX10_quarrel_186 : decode cX10_quarrel 186 = .ok (.iload 10, 2) := by decide +kernel
theorem dX10_quarrel_188 : decode cX10_quarrel 188 = .ok (.iastore, 1) := by decide +kernel
theorem dX10_quarrel_189 : decode cX10_quarrel 189 = .ok (.iload 4, 2) := by decide +kernel
theorem dX10_quarrel_191 : decode cX10_quarrel 191 = .ok (.ifCond .ne 8, 3) := by decide +kernel
theorem dX10_quarrel_194 : decode cX10_quarrel 194 = .ok (.iload 9, 2) := by decide +kernel
theorem dX10_quarrel_196 : decode cX10_quarrel 196 = .ok (.goto 5, 3) := by decide +kernel
theorem dX10_quarrel_199 : decode cX10_quarrel 199 = .ok (.iload 10, 2) := by decide +kernel
theorem dX10_quarrel_201 : decode cX10_quarrel 201 = .ok (.istore 5, 2) := by decide +kernel
theorem dX10_quarrel_203 : decode cX10_quarrel 203 = .ok (.iinc 6 1, 3) := by decide +kernel
theorem dX10_quarrel_206 : decode cX10_quarrel 206 = .ok (.goto (-103), 3) := by decide +kernel
theorem dX10_quarrel_209 : decode cX10_quarrel 209 = .ok (.iconst 0, 1) := by decide +kernel
theorem dX10_quarrel_210 : decode cX10_quarrel 210 = .ok (.istore 6, 2) := by decide +kernel
theorem dX10_quarrel_212 : decode cX10_quarrel 212 = .ok (.iload 6, 2) := by decide +kernel
theorem dX10_quarrel_214 : decode cX10_quarrel 214 = .ok (.bipush 30, 2) := by decide +kernel
theorem dX10_quarrel_216 : decode cX10_quarrel 216 = .ok (.if_icmp .ge 50, 3) := by decide +kernel
theorem dX10_quarrel_219 : decode cX10_quarrel 219 = .ok (.aload_n 0, 1) := by decide +kernel
theorem dX10_quarrel_220 : decode cX10_quarrel 220 = .ok (.getfield 19, 3) := by decide +kernel
theorem dX10_quarrel_223 : decode cX10_quarrel 223 = .ok (.iload_n 1, 1) := by decide +kernel
theorem dX10_quarrel_224 : decode cX10_quarrel 224 = .ok (.iconst 0, 1) := by decide +kernel
theorem dX10_quarrel_225 : decode cX10_quarrel 225 = .ok (.iload 6, 2) := by decide +kernel
theorem dX10_quarrel_227 : decode cX10_quarrel 227 = .ok (.invokestatic 156, 3) := by decide +kernel
theorem dX10_quarrel_230 : decode cX10_quarrel 230 = .ok (.aload_n 0, 1) := by decide +kernel
theorem dX10_quarrel_231 : decode cX10_quarrel 231 = .ok (.getfield 46, 3) := by decide +kernel
theorem dX10_quarrel_234 : decode cX10_quarrel 234 = .ok (.iload 6, 2) := by decide +kernel
theorem dX10_quarrel_236 : decode cX10_quarrel 236 = .ok (.iaload, 1) := by decide +kernel
theorem dX10_quarrel_237 : decode cX10_quarrel 237 = .ok (.iastore, 1) := by decide +kernel
theorem dX10_quarrel_238 : decode cX10_quarrel 238 = .ok (.aload_n 0, 1) := by decide +kernel
theorem dX10_quarrel_239 : decode cX10_quarrel 239 = .ok (.getfield 19, 3) := by decide +kernel
theorem dX10_quarrel_242 : decode cX10_quarrel 242 = .ok (.iload_n 1, 1) := by decide +kernel
theorem dX10_quarrel_243 : decode cX10_quarrel 243 = .ok (.iconst 1, 1) := by decide +kernel
theorem dX10_quarrel_244 : decode cX10_quarrel 244 = .ok (.iload 6, 2) := by decide +kernel
theorem dX10_quarrel_246 : decode cX10_quarrel 246 = .ok (.invokestatic 156, 3) := by decide +kernel
theorem dX10_quarrel_249 : decode cX10_quarrel 249 = .ok (.aload_n 0, 1) := by decide +kernel
theorem dX10_quarrel_250 : decode cX10_quarrel 250 = .ok (.getfield 46, 3) := by decide +kernel
theorem dX10_quarrel_253 : decode cX10_quarrel 253 = .ok (.bipush 30, 2) := by decide +kernel
theorem dX10_quarrel_255 : decode cX10_quarrel 255 = .ok (.iload 6, 2) := by decide +kernel
theorem dX10_quarrel_257 : decode cX10_quarrel 257 = .ok (.iadd, 1) := by decide +kernel
theorem dX10_quarrel_258 : decode cX10_quarrel 258 = .ok (.iaload, 1) := by decide +kernel
theorem dX10_quarrel_259 : decode cX10_quarrel 259 = .ok (.iastore, 1) := by decide +kernel
theorem dX10_quarrel_260 : decode cX10_quarrel 260 = .ok (.iinc 6 1, 3) := by decide +kernel
theorem dX10_quarrel_263 : decode cX10_quarrel 263 = .ok (.goto (-51), 3) := by decide +kernel
theorem dX10_quarrel_266 : decode cX10_quarrel 266 = .ok (.iload 5, 2) := by decide +kernel
theorem dX10_quarrel_268 : decode cX10_quarrel 268 = .ok (.bipush 10, 2) := by decide +kernel
theorem dX10_quarrel_270 : decode cX10_quarrel 270 = .ok (.iadd, 1) := by decide +kernel
theorem dX10_quarrel_271 : decode cX10_quarrel 271 = .ok (.ireturn, 1) := by decide +kernel
theorem dX10_wouldChange_0 : decode cX10_wouldChange 0 = .ok (.aload_n 0, 1) := by decide +kernel
theorem dX10_wouldChange_1 : decode cX10_wouldChange 1 = .ok (.iload_n 1, 1) := by decide +kernel
theorem dX10_wouldChange_2 : decode cX10_wouldChange 2 = .ok (.iload_n 2, 1) := by decide +kernel
theorem dX10_wouldChange_3 : decode cX10_wouldChange 3 = .ok (.iconst 1, 1) := by decide +kernel
theorem dX10_wouldChange_4 : decode cX10_wouldChange 4 = .ok (.iadd, 1) := by decide +kernel
theorem dX10_wouldChange_5 : decode cX10_wouldChange 5 = .ok (.invokevirtual 183, 3) := by decide +kernel
theorem dX10_wouldChange_8 : decode cX10_wouldChange 8 = .ok (.istore_n 3, 1) := by decide +kernel
theorem dX10_wouldChange_9 : decode cX10_wouldChange 9 = .ok (.iconst 0, 1) := by decide +kernel
theorem dX10_wouldChange_10 : decode cX10_wouldChange 10 = .ok (.istore 4, 2) := by decide +kernel
theorem dX10_wouldChange_12 : decode cX10_wouldChange 12 = .ok (.iconst 0, 1) := by decide +kernel
theorem dX10_wouldChange_13 : decode cX10_wouldChange 13 = .ok (.istore 5, 2) := by decide +kernel
theorem dX10_wouldChange_15 : decode cX10_wouldChange 15 = .ok (.iload 5, 2) := by decide +kernel
theorem dX10_wouldChange_17 : decode cX10_wouldChange 17 = .ok (.iconst 2, 1) := by decide +kernel
theorem dX10_wouldChange_18 : decode cX10_wouldChange 18 = .ok (.if_icmp .ge 97, 3) := by decide +kernel
theorem dX10_wouldChange_21 : decode cX10_wouldChange 21 = .ok (.aload_n 0, 1) := by decide +kernel
theorem dX10_wouldChange_22 : decode cX10_wouldChange 22 = .ok (.iload_n 1, 1) := by decide +kernel
theorem dX10_wouldChange_23 : decode cX10_wouldChange 23 = .ok (.iload 5, 2) := by decide +kernel
theorem dX10_wouldChange_25 : decode cX10_wouldChange 25 = .ok (.invokestatic 146, 3) := by decide +kernel
theorem dX10_wouldChange_28 : decode cX10_wouldChange 28 = .ok (.invokevirtual 133, 3) := by decide +kernel
theorem dX10_wouldChange_31 : decode cX10_wouldChange 31 = .ok (.ifCond .ne 78, 3) := by decide +kernel
theorem dX10_wouldChange_34 : decode cX10_wouldChange 34 = .ok (.iload_n 1, 1) := by decide +kernel
theorem dX10_wouldChange_35 : decode cX10_wouldChange 35 = .ok (.iload 5, 2) := by decide +kernel
theorem dX10_wouldChange_37 : decode cX10_wouldChange 37 = .ok (.iload_n 2, 1) := by decide +kernel
theorem dX10_wouldChange_38 : decode cX10_wouldChange 38 = .ok (.invokestatic 149, 3) := by decide +kernel
theorem dX10_wouldChange_41 : decode cX10_wouldChange 41 = .ok (.istore 6, 2) := by decide +kernel
theorem dX10_wouldChange_43 : decode cX10_wouldChange 43 = .ok (.aload_n 0, 1) := by decide +kernel
theorem dX10_wouldChange_44 : decode cX10_wouldChange 44 = .ok (.getfield 19, 3) := by decide +kernel
theorem dX10_wouldChange_47 : decode cX10_wouldChange 47 = .ok (.iload 6, 2) := by decide +kernel
theorem dX10_wouldChange_49 : decode cX10_wouldChange 49 = .ok (.iaload, 1) := by decide +kernel
theorem dX10_wouldChange_50 : decode cX10_wouldChange 50 = .ok (.istore 7, 2) := by decide +kernel
theorem dX10_wouldChange_52 : decode cX10_wouldChange 52 = .ok (.iconst (-1), 1) := by decide +kernel
theorem dX10_wouldChange_53 : decode cX10_wouldChange 53 = .ok (.istore 8, 2) := by decide +kernel
theorem dX10_wouldChange_55 : decode cX10_wouldChange 55 = .ok (.iload 8, 2) := by decide +kernel
theorem dX10_wouldChange_57 : decode cX10_wouldChange 57 = .ok (.iconst 2, 1) := by decide +kernel
theorem dX10_wouldChange_58 : decode cX10_wouldChange 58 = .ok (.if_icmp .ge 42, 3) := by decide +kernel
theorem dX10_wouldChange_61 : decode cX10_wouldChange 61 = .ok (.aload_n 0, 1) := by decide +kernel
theorem dX10_wouldChange_62 : decode cX10_wouldChange 62 = .ok (.getfield 19, 3) := by decide +kernel
theorem dX10_wouldChange_65 : decode cX10_wouldChange 65 = .ok (.iload 6, 2) := by decide +kernel
theorem dX10_wouldChange_67 : decode cX10_wouldChange 67 = .ok (.iload 8, 2) := by decide +kernel
theorem dX10_wouldChange_69 : decode cX10_wouldChange 69 = .ok (.iastore, 1) := by decide +kernel
theorem dX10_wouldChange_70 : decode cX10_wouldChange 70 = .ok (.iload 4, 2) := by decide +kernel
theorem dX10_wouldChange_72 : decode cX10_wouldChange 72 = .ok (.ifCond .ne 15, 3) := by decide +kernel
theorem dX10_wouldChange_75 : decode cX10_wouldChange 75 = .ok (.aload_n 0, 1) := by decide +kernel
theorem dX10_wouldChange_76 : decode cX10_wouldChange 76 = .ok (.iload_n 1, 1) := by decide +kernel
theorem dX10_wouldChange_77 : decode cX10_wouldChange 77 = .ok (.iload_n 2, 1) := by decide +kernel
theorem dX10_wouldChange_78 : decode cX10_wouldChange 78 = .ok (.iconst 1, 1) := by decide +kernel
theorem dX10_wouldChange_79 : decode cX10_wouldChange 79 = .ok (.iadd, 1) := by decide +kernel
theorem dX10_wouldChange_80 : decode cX10_wouldChange 80 = .ok (.invokevirtual 183, 3) := by decide +kernel
theorem dX10_wouldChange_83 : decode cX10_wouldChange 83 = .ok (.iload_n 3, 1) := by decide +kernel
theorem dX10_wouldChange_84 : decode cX10_wouldChange 84 = .ok (.if_icmp .le 7, 3) := by decide +kernel
theorem dX10_wouldChange_87 : decode cX10_wouldChange 87 = .ok (.iconst 1, 1) := by decide +kernel
theorem dX10_wouldChange_88 : decode cX10_wouldChange 88 = .ok (.goto 4, 3) := by decide +kernel
theorem dX10_wouldChange_91 : decode cX10_wouldChange 91 = .ok (.iconst 0, 1) := by decide +kernel
theorem dX10_wouldChange_92 : decode cX10_wouldChange 92 = .ok (.istore 4, 2) := by decide +kernel
theorem dX10_wouldChange_94 : decode cX10_wouldChange 94 = .ok (.iinc 8 1, 3) := by decide +kernel
theorem dX10_wouldChange_97 : decode cX10_wouldChange 97 = .ok (.goto (-42), 3) := by decide +kernel
theorem dX10_wouldChange_100 : decode cX10_wouldChange 100 = .ok (.aload_n 0, 1) := by decide +kernel
theorem dX10_wouldChange_101 : decode cX10_wouldChange 101 = .ok (.getfield 19, 3) := by decide +kernel
theorem dX10_wouldChange_104 : decode cX10_wouldChange 104 = .ok (.iload 6, 2) := by decide +kernel
theorem dX10_wouldChange_106 : decode cX10_wouldChange 106 = .ok (.iload 7, 2) := by decide +kernel
theorem dX10_wouldChange_108 : decode cX10_wouldChange 108 = .ok (.iastore, 1) := by decide +kernel
theorem dX10_wouldChange_109 : decode cX10_wouldChange 109 = .ok (.iinc 5 1, 3) := by decide +kernel
theorem dX10_wouldChange_112 : decode cX10_wouldChange 112 = .ok (.goto (-97), 3) := by decide +kernel
theorem dX10_wouldChange_115 : decode cX10_wouldChange 115 = .ok (.iload 4, 2) := by decide +kernel
theorem dX10_wouldChange_117 : decode cX10_wouldChange 117 = .ok (.ireturn, 1) := by decide +kernel
theorem dX10_peace_0 : decode cX10_peace 0 = .ok (.iload_n 1, 1) := by decide +kernel
theorem dX10_peace_1 : decode cX10_peace 1 = .ok (.invokestatic 139, 3) := by decide +kernel
theorem dX10_peace_4 : decode cX10_peace 4 = .ok (.ifCond .ne 6, 3) := by decide +kernel
theorem dX10_peace_7 : decode cX10_peace 7 = .ok (.bipush (-2), 2) := by decide +kernel
theorem dX10_peace_9 : decode cX10_peace 9 = .ok (.ireturn, 1) := by decide +kernel
theorem dX10_peace_10 : decode cX10_peace 10 = .ok (.aload_n 0, 1) := by decide +kernel
theorem dX10_peace_11 : decode cX10_peace 11 = .ok (.getfield 71, 3) := by decide +kernel
theorem dX10_peace_14 : decode cX10_peace 14 = .ok (.ifCond .ne 6, 3) := by decide +kernel
theorem dX10_peace_17 : decode cX10_peace 17 = .ok (.bipush (-3), 2) := by decide +kernel
theorem dX10_peace_19 : decode cX10_peace 19 = .ok (.ireturn, 1) := by decide +kernel
theorem dX10_peace_20 : decode cX10_peace 20 = .ok (.iconst 0, 1) := by decide +kernel
theorem dX10_peace_21 : decode cX10_peace 21 = .ok (.istore_n 2, 1) := by decide +kernel
theorem dX10_peace_22 : decode cX10_peace 22 = .ok (.iconst 0, 1) := by decide +kernel
theorem dX10_peace_23 : decode cX10_peace 23 = .ok (.istore_n 3, 1) := by decide +kernel
theorem dX10_peace_24 : decode cX10_peace 24 = .ok (.iload_n 3, 1) := by decide +kernel
theorem dX10_peace_25 : decode cX10_peace 25 = .ok (.aload_n 0, 1) := by decide +kernel
theorem dX10_peace_26 : decode cX10_peace 26 = .ok (.getfield 71, 3) := by decide +kernel
theorem dX10_peace_29 : decode cX10_peace 29 = .ok (.if_icmp .ge 28, 3) := by decide +kernel
theorem dX10_peace_32 : decode cX10_peace 32 = .ok (.iload_n 2, 1) := by decide +kernel
theorem dX10_peace_33 : decode cX10_peace 33 = .ok (.aload_n 0, 1) := by decide +kernel
theorem dX10_peace_34 : decode cX10_peace 34 = .ok (.iload_n 3, 1) := by decide +kernel
theorem dX10_peace_35 : decode cX10_peace 35 = .ok (.iload_n 1, 1) := by decide +kernel
theorem dX10_peace_36 : decode cX10_peace 36 = .ok (.invokevirtual 199, 3) := by decide +kernel
theorem dX10_peace_39 : decode cX10_peace 39 = .ok (.ifCond .eq 9, 3) := by decide +kernel
theorem dX10_peace_42 : decode cX10_peace 42 = .ok (.iconst 1, 1) := by decide +kernel
theorem dX10_peace_43 : decode cX10_peace 43 = .ok (.iload_n 3, 1) := by decide +kernel
theorem dX10_peace_44 : decode cX10_peace 44 = .ok (.ishl, 1) := by decide +kernel
theorem dX10_peace_45 : decode cX10_peace 45 = .ok (.goto 4, 3) := by decide +kernel
theorem dX10_peace_48 : decode cX10_peace 48 = .ok (.iconst 0, 1) := by decide +kernel
theorem dX10_peace_49 : decode cX10_peace 49 = .ok (.ior, 1) := by decide +kernel
theorem dX10_peace_50 : decode cX10_peace 50 = .ok (.istore_n 2, 1) := by decide +kernel
theorem dX10_peace_51 : decode cX10_peace 51 = .ok (.iinc 3 1, 3) := by decide +kernel
theorem dX10_peace_54 : decode cX10_peace 54 = .ok (.goto (-30), 3) := by decide +kernel
theorem dX10_peace_57 : decode cX10_peace 57 = .ok (.iload_n 2, 1) := by decide +kernel
theorem dX10_peace_58 : decode cX10_peace 58 = .ok (.ireturn, 1) := by decide +kernel
theorem dX10_above_0 : decode cX10_above 0 = .ok (.iload_n 0, 1) := by decide +kernel
theorem dX10_above_1 : decode cX10_above 1 = .ok (.iload_n 1, 1) := by decide +kernel
theorem dX10_above_2 : decode cX10_above 2 = .ok (.if_icmp .le 9, 3) := by decide +kernel
theorem dX10_above_5 : decode cX10_above 5 = .ok (.iload_n 0, 1) := by decide +kernel
theorem dX10_above_6 : decode cX10_above 6 = .ok (.iload_n 1, 1) := by decide +kernel
theorem dX10_above_7 : decode cX10_above 7 = .ok (.isub, 1) := by decide +kernel
theorem dX10_above_8 : decode cX10_above 8 = .ok (.goto 4, 3) := by decide +kernel
theorem dX10_above_11 : decode cX10_above 11 = .ok (.iconst 0, 1) := by decide +kernel
theorem dX10_above_12 : decode cX10_above 12 = .ok (.ireturn, 1) := by decide +kernel
theorem dX10_round_0 : decode cX10_round 0 = .ok (.iload_n 1, 1) := by decide +kernel
theorem dX10_round_1 : decode cX10_round 1 = .ok (.invokestatic 168, 3) := by decide +kernel
theorem dX10_round_4 : decode cX10_round 4 = .ok (.ifCond .eq 10, 3) := by decide +kernel
theorem dX10_round_7 : decode cX10_round 7 = .ok (.iload_n 2, 1) := by decide +kernel
theorem dX10_round_8 : decode cX10_round 8 = .ok (.invokestatic 153, 3) := by decide +kernel
theorem dX10_round_11 : decode cX10_round 11 = .ok (.ifCond .ne 6, 3) := by decide +kernel
theorem dX10_round_14 : decode cX10_round 14 = .ok (.bipush (-2), 2) := by decide +kernel
theorem dX10_round_16 : decode cX10_round 16 = .ok (.ireturn, 1) := by decide +kernel
theorem dX10_round_17 : decode cX10_round 17 = .ok (.aload_n 0, 1) := by decide +kernel
theorem dX10_round_18 : decode cX10_round 18 = .ok (.getfield 71, 3) := by decide +kernel
theorem dX10_round_21 : decode cX10_round 21 = .ok (.ifCond .ne 6, 3) := by decide +kernel
theorem dX10_round_24 : decode cX10_round 24 = .ok (.bipush (-3), 2) := by decide +kernel
theorem dX10_round_26 : decode cX10_round 26 = .ok (.ireturn, 1) := by decide +kernel
theorem dX10_round_27 : decode cX10_round 27 = .ok (.iconst 0, 1) := by decide +kernel
theorem dX10_round_28 : decode cX10_round 28 = .ok (.istore_n 3, 1) := by decide +kernel
theorem dX10_round_29 : decode cX10_round 29 = .ok (.iconst 0, 1) := by decide +kernel
theorem dX10_round_30 : decode cX10_round 30 = .ok (.istore 4, 2) := by decide +kernel
theorem dX10_round_32 : decode cX10_round 32 = .ok (.iconst 0, 1) := by decide +kernel
theorem dX10_round_33 : decode cX10_round 33 = .ok (.istore 5, 2) := by decide +kernel
theorem dX10_round_35 : decode cX10_round 35 = .ok (.iload 5, 2) := by decide +kernel
theorem dX10_round_37 : decode cX10_round 37 = .ok (.aload_n 0, 1) := by decide +kernel
theorem dX10_round_38 : decode cX10_round 38 = .ok (.invokevirtual 78, 3) := by decide +kernel
theorem dX10_round_41 : decode cX10_round 41 = .ok (.if_icmp .ge 67, 3) := by decide +kernel
theorem dX10_round_44 : decode cX10_round 44 = .ok (.aload_n 0, 1) := by decide +kernel
theorem dX10_round_45 : decode cX10_round 45 = .ok (.iload 5, 2) := by decide +kernel
theorem dX10_round_47 : decode cX10_round 47 = .ok (.iconst 0, 1) := by decide +kernel
theorem dX10_round_48 : decode cX10_round 48 = .ok (.iload_n 1, 1) := by decide +kernel
theorem dX10_round_49 : decode cX10_round 49 = .ok (.invokevirtual 171, 3) := by decide +kernel
theorem dX10_round_52 : decode cX10_round 52 = .ok (.bipush 12, 2) := by decide +kernel
theorem dX10_round_54 : decode cX10_round 54 = .ok (.iload_n 2, 1) := by decide +kernel
theorem dX10_round_55 : decode cX10_round 55 = .ok (.imul, 1) := by decide +kernel
theorem dX10_round_56 : decode cX10_round 56 = .ok (.invokestatic 202, 3) := by decide +kernel
theorem dX10_round_59 : decode cX10_round 59 = .ok (.aload_n 0, 1) := by decide +kernel
theorem dX10_round_60 : decode cX10_round 60 = .ok (.iload 5, 2) := by decide +kernel
theorem dX10_round_62 : decode cX10_round 62 = .ok (.iconst 1, 1) := by decide +kernel
theorem dX10_round_63 : decode cX10_round 63 = .ok (.iload_n 1, 1) := by decide +kernel
theorem dX10_round_64 : decode cX10_round 64 = .ok (.invokevirtual 171, 3) := by decide +kernel
theorem dX10_round_67 : decode cX10_round 67 = .ok (.bipush 12, 2) := by decide +kernel
theorem dX10_round_69 : decode cX10_round 69 = .ok (.iload_n 2, 1) := by decide +kernel
theorem dX10_round_70 : decode cX10_round 70 = .ok (.imul, 1) := by decide +kernel
theorem dX10_round_71 : decode cX10_round 71 = .ok (.invokestatic 202, 3) := by decide +kernel
theorem dX10_round_74 : decode cX10_round 74 = .ok (.iadd, 1) := by decide +kernel
theorem dX10_round_75 : decode cX10_round 75 = .ok (.istore 6, 2) := by decide +kernel
theorem dX10_round_77 : decode cX10_round 77 = .ok (.iload 6, 2) := by decide +kernel
theorem dX10_round_79 : decode cX10_round 79 = .ok (.ifCond .le 8, 3) := by decide +kernel
theorem dX10_round_82 : decode cX10_round 82 = .ok (.iload 5, 2) := by decide +kernel
theorem dX10_round_84 : decode cX10_round 84 = .ok (.goto 4, 3) := by decide +kernel
theorem dX10_round_87 : decode cX10_round 87 = .ok (.iload_n 3, 1) := by decide +kernel
theorem dX10_round_88 : decode cX10_round 88 = .ok (.istore_n 3, 1) := by decide +kernel
theorem dX10_round_89 : decode cX10_round 89 = .ok (.iload 4, 2) := by decide +kernel
theorem dX10_round_91 : decode cX10_round 91 = .ok (.iload 6, 2) := by decide +kernel
theorem dX10_round_93 : decode cX10_round 93 = .ok (.bipush 11, 2) := by decide +kernel
theorem dX10_round_95 : decode cX10_round 95 = .ok (.iadd, 1) := by decide +kernel
theorem dX10_round_96 : decode cX10_round 96 = .ok (.bipush 12, 2) := by decide +kernel
theorem dX10_round_98 : decode cX10_round 98 = .ok (.idiv, 1) := by decide +kernel
theorem dX10_round_99 : decode cX10_round 99 = .ok (.iadd, 1) := by decide +kernel
theorem dX10_round_100 : decode cX10_round 100 = .ok (.istore 4, 2) := by decide +kernel
theorem dX10_round_102 : decode cX10_round 102 = .ok (.iinc 5 1, 3) := by decide +kernel
theorem dX10_round_105 : decode cX10_round 105 = .ok (.goto (-70), 3) := by decide +kernel
theorem dX10_round_108 : decode cX10_round 108 = .ok (.iload_n 3, 1) := by decide +kernel
theorem dX10_round_109 : decode cX10_round 109 = .ok (.iload 4, 2) := by decide +kernel
theorem dX10_round_111 : decode cX10_round 111 = .ok (.iadd, 1) := by decide +kernel
theorem dX10_round_112 : decode cX10_round 112 = .ok (.ireturn, 1) := by decide +kernel
theorem dX10_finedAt_0 : decode cX10_finedAt 0 = .ok (.aload_n 0, 1) := by decide +kernel
theorem dX10_finedAt_1 : decode cX10_finedAt 1 = .ok (.iload_n 1, 1) := by decide +kernel
theorem dX10_finedAt_2 : decode cX10_finedAt 2 = .ok (.iconst 0, 1) := by decide +kernel
theorem dX10_finedAt_3 : decode cX10_finedAt 3 = .ok (.iload_n 3, 1) := by decide +kernel
theorem dX10_finedAt_4 : decode cX10_finedAt 4 = .ok (.invokevirtual 171, 3) := by decide +kernel
theorem dX10_finedAt_7 : decode cX10_finedAt 7 = .ok (.istore 5, 2) := by decide +kernel
theorem dX10_finedAt_9 : decode cX10_finedAt 9 = .ok (.aload_n 0, 1) := by decide +kernel
theorem dX10_finedAt_10 : decode cX10_finedAt 10 = .ok (.iload_n 1, 1) := by decide +kernel
theorem dX10_finedAt_11 : decode cX10_finedAt 11 = .ok (.iconst 1, 1) := by decide +kernel
theorem dX10_finedAt_12 : decode cX10_finedAt 12 = .ok (.iload_n 3, 1) := by decide +kernel
theorem dX10_finedAt_13 : decode cX10_finedAt 13 = .ok (.invokevirtual 171, 3) := by decide +kernel
theorem dX10_finedAt_16 : decode cX10_finedAt 16 = .ok (.istore 6, 2) := by decide +kernel
theorem dX10_finedAt_18 : decode cX10_finedAt 18 = .ok (.iload 5, 2) := by decide +kernel
theorem dX10_finedAt_20 : decode cX10_finedAt 20 = .ok (.iload 6, 2) := by decide +kernel
theorem dX10_finedAt_22 : decode cX10_finedAt 22 = .ok (.invokestatic 165, 3) := by decide +kernel
theorem dX10_finedAt_25 : decode cX10_finedAt 25 = .ok (.istore 7, 2) := by decide +kernel
theorem dX10_finedAt_27 : decode cX10_finedAt 27 = .ok (.iload 7, 2) := by decide +kernel
theorem dX10_finedAt_29 : decode cX10_finedAt 29 = .ok (.bipush 12, 2) := by decide +kernel
theorem dX10_finedAt_31 : decode cX10_finedAt 31 = .ok (.iload 4, 2) := by decide +kernel
theorem dX10_finedAt_33 : decode cX10_finedAt 33 = .ok (.imul, 1) := by decide +kernel
theorem dX10_finedAt_34 : decode cX10_finedAt 34 = .ok (.if_icmp .gt 5, 3) := by decide +kernel
theorem dX10_finedAt_37 : decode cX10_finedAt 37 = .ok (.iconst 0, 1) := by decide +kernel
theorem dX10_finedAt_38 : decode cX10_finedAt 38 = .ok (.ireturn, 1) := by decide +kernel
theorem dX10_finedAt_39 : decode cX10_finedAt 39 = .ok (.iload 7, 2) := by decide +kernel
theorem dX10_finedAt_41 : decode cX10_finedAt 41 = .ok (.bipush 12, 2) := by decide +kernel
theorem dX10_finedAt_43 : decode cX10_finedAt 43 = .ok (.idiv, 1) := by decide +kernel
theorem dX10_finedAt_44 : decode cX10_finedAt 44 = .ok (.istore 8, 2) := by decide +kernel
theorem dX10_finedAt_46 : decode cX10_finedAt 46 = .ok (.iload 5, 2) := by decide +kernel
theorem dX10_finedAt_48 : decode cX10_finedAt 48 = .ok (.iload 6, 2) := by decide +kernel
theorem dX10_finedAt_50 : decode cX10_finedAt 50 = .ok (.if_icmp .lt 7, 3) := by decide +kernel
theorem dX10_finedAt_53 : decode cX10_finedAt 53 = .ok (.iconst 0, 1) := by decide +kernel
theorem dX10_finedAt_54 : decode cX10_finedAt 54 = .ok (.goto 4, 3) := by decide +kernel
theorem dX10_finedAt_57 : decode cX10_finedAt 57 = .ok (.iconst 1, 1) := by decide +kernel
theorem dX10_finedAt_58 : decode cX10_finedAt 58 = .ok (.iload_n 2, 1) := by decide +kernel
theorem dX10_finedAt_59 : decode cX10_finedAt 59 = .ok (.if_icmp .ne 7, 3) := by decide +kernel
theorem dX10_finedAt_62 : decode cX10_finedAt 62 = .ok (.iconst 1, 1) := by decide +kernel
theorem dX10_finedAt_63 : decode cX10_finedAt 63 = .ok (.goto 4, 3) := by decide +kernel
theorem dX10_finedAt_66 : decode cX10_finedAt 66 = .ok (.iconst 0, 1) := by decide +kernel
theorem dX10_finedAt_67 : decode cX10_finedAt 67 = .ok (.istore 9, 2) := by decide +kernel
theorem dX10_finedAt_69 : decode cX10_finedAt 69 = .ok (.iload 8, 2) := by decide +kernel
theorem dX10_finedAt_71 : decode cX10_finedAt 71 = .ok (.iconst 2, 1) := by decide +kernel
theorem dX10_finedAt_72 : decode cX10_finedAt 72 = .ok (.idiv, 1) := by decide +kernel
theorem dX10_finedAt_73 : decode cX10_finedAt 73 = .ok (.iload 9, 2) := by decide +kernel
theorem dX10_finedAt_75 : decode cX10_finedAt 75 = .ok (.ifCond .eq 10, 3) := by decide +kernel
theorem dX10_finedAt_78 : decode cX10_finedAt 78 = .ok (.iload 8, 2) := by decide +kernel
theorem dX10_finedAt_80 : decode cX10_finedAt 80 = .ok (.iconst 2, 1) := by decide +kernel
theorem dX10_finedAt_81 : decode cX10_finedAt 81 = .ok (.irem, 1) := by decide +kernel
theorem dX10_finedAt_82 : decode cX10_finedAt 82 = .ok (.goto 4, 3) := by decide +kernel
theorem dX10_finedAt_85 : decode cX10_finedAt 85 = .ok (.iconst 0, 1) := by decide +kernel
theorem dX10_finedAt_86 : decode cX10_finedAt 86 = .ok (.iadd, 1) := by decide +kernel
theorem dX10_finedAt_87 : decode cX10_finedAt 87 = .ok (.ireturn, 1) := by decide +kernel
theorem dX10_finesOf_0 : decode cX10_finesOf 0 = .ok (.iconst 0, 1) := by decide +kernel
theorem dX10_finesOf_1 : decode cX10_finesOf 1 = .ok (.istore_n 3, 1) := by decide +kernel
theorem dX10_finesOf_2 : decode cX10_finesOf 2 = .ok (.iconst 1, 1) := by decide +kernel
theorem dX10_finesOf_3 : decode cX10_finesOf 3 = .ok (.istore 4, 2) := by decide +kernel
theorem dX10_finesOf_5 : decode cX10_finesOf 5 = .ok (.iload 4, 2) := by decide +kernel
theorem dX10_finesOf_7 : decode cX10_finesOf 7 = .ok (.bipush 30, 2) := by decide +kernel
theorem dX10_finesOf_9 : decode cX10_finesOf 9 = .ok (.if_icmp .gt 61, 3) := by decide +kernel
theorem dX10_finesOf_12 : decode cX10_finesOf 12 = .ok (.iconst 0, 1) := by decide +kernel
theorem dX10_finesOf_13 : decode cX10_finesOf 13 = .ok (.istore 5, 2) := by decide +kernel
theorem dX10_finesOf_15 : decode cX10_finesOf 15 = .ok (.iload 5, 2) := by decide +kernel
theorem dX10_finesOf_17 : decode cX10_finesOf 17 = .ok (.iconst 2, 1) := by decide +kernel
theorem dX10_finesOf_18 : decode cX10_finesOf 18 = .ok (.if_icmp .ge 46, 3) := by decide +kernel
theorem dX10_finesOf_21 : decode cX10_finesOf 21 = .ok (.iload_n 1, 1) := by decide +kernel
theorem dX10_finesOf_22 : decode cX10_finesOf 22 = .ok (.iload 5, 2) := by decide +kernel
theorem dX10_finesOf_24 : decode cX10_finesOf 24 = .ok (.invokestatic 146, 3) := by decide +kernel
theorem dX10_finesOf_27 : decode cX10_finesOf 27 = .ok (.istore 6, 2) := by decide +kernel
theorem dX10_finesOf_29 : decode cX10_finesOf 29 = .ok (.iload_n 3, 1) := by decide +kernel
theorem dX10_finesOf_30 : decode cX10_finesOf 30 = .ok (.aload_n 0, 1) := by decide +kernel
theorem dX10_finesOf_31 : decode cX10_finesOf 31 = .ok (.iload 6, 2) := by decide +kernel
theorem dX10_finesOf_33 : decode cX10_finesOf 33 = .ok (.invokevirtual 133, 3) := by decide +kernel
theorem dX10_finesOf_36 : decode cX10_finesOf 36 = .ok (.ifCond .eq 7, 3) := by decide +kernel
theorem dX10_finesOf_39 : decode cX10_finesOf 39 = .ok (.iconst 0, 1) := by decide +kernel
theorem dX10_finesOf_40 : decode cX10_finesOf 40 = .ok (.goto 16, 3) := by decide +kernel
theorem dX10_finesOf_43 : decode cX10_finesOf 43 = .ok (.aload_n 0, 1) := by decide +kernel
theorem dX10_finesOf_44 : decode cX10_finesOf 44 = .ok (.iload 6, 2) := by decide +kernel
theorem dX10_finesOf_46 : decode cX10_finesOf 46 = .ok (.iconst 1, 1) := by decide +kernel
theorem dX10_finesOf_47 : decode cX10_finesOf 47 = .ok (.iload 5, 2) := by decide +kernel
theorem dX10_finesOf_49 : decode cX10_finesOf 49 = .ok (.isub, 1) := by decide +kernel
theorem dX10_finesOf_50 : decode cX10_finesOf 50 = .ok (.iload 4, 2) := by decide +kernel
theorem dX10_finesOf_52 : decode cX10_finesOf 52 = .ok (.iload_n 2, 1) := by decide +kernel
theorem dX10_finesOf_53 : decode cX10_finesOf 53 = .ok (.invokevirtual 205, 3) := by decide +kernel
theorem dX10_finesOf_56 : decode cX10_finesOf 56 = .ok (.iadd, 1) := by decide +kernel
theorem dX10_finesOf_57 : decode cX10_finesOf 57 = .ok (.istore_n 3, 1) := by decide +kernel
theorem dX10_finesOf_58 : decode cX10_finesOf 58 = .ok (.iinc 5 1, 3) := by decide +kernel
theorem dX10_finesOf_61 : decode cX10_finesOf 61 = .ok (.goto (-46), 3) := by decide +kernel
theorem dX10_finesOf_64 : decode cX10_finesOf 64 = .ok (.iinc 4 1, 3) := by decide +kernel
theorem dX10_finesOf_67 : decode cX10_finesOf 67 = .ok (.goto (-62), 3) := by decide +kernel
theorem dX10_finesOf_70 : decode cX10_finesOf 70 = .ok (.iload_n 3, 1) := by decide +kernel
theorem dX10_finesOf_71 : decode cX10_finesOf 71 = .ok (.ireturn, 1) := by decide +kernel
theorem dX10_fines_0 : decode cX10_fines 0 = .ok (.iload_n 1, 1) := by decide +kernel
theorem dX10_fines_1 : decode cX10_fines 1 = .ok (.iconst (-1), 1) := by decide +kernel
theorem dX10_fines_2 : decode cX10_fines 2 = .ok (.if_icmp .eq 13, 3) := by decide +kernel
theorem dX10_fines_5 : decode cX10_fines 5 = .ok (.aload_n 0, 1) := by decide +kernel
theorem dX10_fines_6 : decode cX10_fines 6 = .ok (.iload_n 1, 1) := by decide +kernel
theorem dX10_fines_7 : decode cX10_fines 7 = .ok (.invokevirtual 130, 3) := by decide +kernel
theorem dX10_fines_10 : decode cX10_fines 10 = .ok (.ifCond .eq 5, 3) := by decide +kernel
theorem dX10_fines_13 : decode cX10_fines 13 = .ok (.iconst (-1), 1) := by decide +kernel
theorem dX10_fines_14 : decode cX10_fines 14 = .ok (.ireturn, 1) := by decide +kernel
theorem dX10_fines_15 : decode cX10_fines 15 = .ok (.iload_n 2, 1) := by decide +kernel
theorem dX10_fines_16 : decode cX10_fines 16 = .ok (.invokestatic 153, 3) := by decide +kernel
theorem dX10_fines_19 : decode cX10_fines 19 = .ok (.ifCond .ne 6, 3) := by decide +kernel
theorem dX10_fines_22 : decode cX10_fines 22 = .ok (.bipush (-2), 2) := by decide +kernel
theorem dX10_fines_24 : decode cX10_fines 24 = .ok (.ireturn, 1) := by decide +kernel
theorem dX10_fines_25 : decode cX10_fines 25 = .ok (.iload_n 1, 1) := by decide +kernel
theorem dX10_fines_26 : decode cX10_fines 26 = .ok (.ifCond .lt 10, 3) := by decide +kernel
theorem dX10_fines_29 : decode cX10_fines 29 = .ok (.aload_n 0, 1) := by decide +kernel
theorem dX10_fines_30 : decode cX10_fines 30 = .ok (.iload_n 1, 1) := by decide +kernel
theorem dX10_fines_31 : decode cX10_fines 31 = .ok (.iload_n 2, 1) := by decide +kernel
theorem dX10_fines_32 : decode cX10_fines 32 = .ok (.invokevirtual 208, 3) := by decide +kernel
theorem dX10_fines_35 : decode cX10_fines 35 = .ok (.ireturn, 1) := by decide +kernel
theorem dX10_fines_36 : decode cX10_fines 36 = .ok (.iconst 0, 1) := by decide +kernel
theorem dX10_fines_37 : decode cX10_fines 37 = .ok (.istore_n 3, 1) := by decide +kernel
theorem dX10_fines_38 : decode cX10_fines 38 = .ok (.iconst 0, 1) := by decide +kernel
theorem dX10_fines_39 : decode cX10_fines 39 = .ok (.istore 4, 2) := by decide +kernel
theorem dX10_fines_41 : decode cX10_fines 41 = .ok (.iload 4, 2) := by decide +kernel
theorem dX10_fines_43 : decode cX10_fines 43 = .ok (.aload_n 0, 1) := by decide +kernel
theorem dX10_fines_44 : decode cX10_fines 44 = .ok (.getfield 71, 3) := by decide +kernel
theorem dX10_fines_47 : decode cX10_fines 47 = .ok (.if_icmp .ge 19, 3) := by decide +kernel
theorem dX10_fines_50 : decode cX10_fines 50 = .ok (.iload_n 3, 1) := by decide +kernel
theorem dX10_fines_51 : decode cX10_fines 51 = .ok (.aload_n 0, 1) := by decide +kernel
theorem dX10_fines_52 : decode cX10_fines 52 = .ok (.iload 4, 2) := by decide +kernel
theorem dX10_fines_54 : decode cX10_fines 54 = .ok (.iload_n 2, 1) := by decide +kernel
theorem dX10_fines_55 : decode cX10_fines 55 = .ok (.invokevirtual 208, 3) := by decide +kernel
theorem dX10_fines_58 : decode cX10_fines 58 = .ok (.iadd, 1) := by decide +kernel
theorem dX10_fines_59 : decode cX10_fines 59 = .ok (.istore_n 3, 1) := by decide +kernel
theorem dX10_fines_60 : decode cX10_fines 60 = .ok (.iinc 4 1, 3) := by decide +kernel
theorem dX10_fines_63 : decode cX10_fines 63 = .ok (.goto (-22), 3) := by decide +kernel
theorem dX10_fines_66 : decode cX10_fines 66 = .ok (.iload_n 3, 1) := by decide +kernel
theorem dX10_fines_67 : decode cX10_fines 67 = .ok (.ireturn, 1) := by decide +kernel
theorem dX10_mean_0 : decode cX10_mean 0 = .ok (.iload_n 1, 1) := by decide +kernel
theorem dX10_mean_1 : decode cX10_mean 1 = .ok (.invokestatic 168, 3) := by decide +kernel
theorem dX10_mean_4 : decode cX10_mean 4 = .ok (.ifCond .eq 20, 3) := by decide +kernel
theorem dX10_mean_7 : decode cX10_mean 7 = .ok (.iload_n 2, 1) := by decide +kernel
theorem dX10_mean_8 : decode cX10_mean 8 = .ok (.i2l, 1) := by decide +kernel
theorem dX10_mean_9 : decode cX10_mean 9 = .ok (.lconst 0, 1) := by decide +kernel
theorem dX10_mean_10 : decode cX10_mean 10 = .ok (.lconst 1, 1) := by decide +kernel
theorem dX10_mean_11 : decode cX10_mean 11 = .ok (.invokestatic 74, 3) := by decide +kernel
theorem dX10_mean_14 : decode cX10_mean 14 = .ok (.ifCond .eq 10, 3) := by decide +kernel
theorem dX10_mean_17 : decode cX10_mean 17 = .ok (.aload_n 0, 1) := by decide +kernel
theorem dX10_mean_18 : decode cX10_mean 18 = .ok (.getfield 71, 3) := by decide +kernel
theorem dX10_mean_21 : decode cX10_mean 21 = .ok (.ifCond .ne 7, 3) := by decide +kernel
theorem dX10_mean_24 : decode cX10_mean 24 = .ok (.invokestatic 67, 3) := by decide +kernel
theorem dX10_mean_27 : decode cX10_mean 27 = .ok (.lreturn, 1) := by decide +kernel
theorem dX10_mean_28 : decode cX10_mean 28 = .ok (.iconst 0, 1) := by decide +kernel
theorem dX10_mean_29 : decode cX10_mean 29 = .ok (.istore_n 3, 1) := by decide +kernel
theorem dX10_mean_30 : decode cX10_mean 30 = .ok (.iconst 0, 1) := by decide +kernel
theorem dX10_mean_31 : decode cX10_mean 31 = .ok (.istore 4, 2) := by decide +kernel
theorem dX10_mean_33 : decode cX10_mean 33 = .ok (.iload 4, 2) := by decide +kernel
theorem dX10_mean_35 : decode cX10_mean 35 = .ok (.aload_n 0, 1) := by decide +kernel
theorem dX10_mean_36 : decode cX10_mean 36 = .ok (.invokevirtual 78, 3) := by decide +kernel
theorem dX10_mean_39 : decode cX10_mean 39 = .ok (.if_icmp .ge 19, 3) := by decide +kernel
theorem dX10_mean_42 : decode cX10_mean 42 = .ok (.iload_n 3, 1) := by decide +kernel
theorem dX10_mean_43 : decode cX10_mean 43 = .ok (.aload_n 0, 1) := by decide +kernel
theorem dX10_mean_44 : decode cX10_mean 44 = .ok (.iload 4, 2) := by decide +kernel
theorem dX10_mean_46 : decode cX10_mean 46 = .ok (.iload_n 1, 1) := by decide +kernel
theorem dX10_mean_47 : decode cX10_mean 47 = .ok (.invokevirtual 174, 3) := by decide +kernel
theorem dX10_mean_50 : decode cX10_mean 50 = .ok (.iadd, 1) := by decide +kernel
theorem dX10_mean_51 : decode cX10_mean 51 = .ok (.istore_n 3, 1) := by decide +kernel
theorem dX10_mean_52 : decode cX10_mean 52 = .ok (.iinc 4 1, 3) := by decide +kernel
theorem dX10_mean_55 : decode cX10_mean 55 = .ok (.goto (-22), 3) := by decide +kernel
theorem dX10_mean_58 : decode cX10_mean 58 = .ok (.iload_n 3, 1) := by decide +kernel
theorem dX10_mean_59 : decode cX10_mean 59 = .ok (.i2l, 1) := by decide +kernel
theorem dX10_mean_60 : decode cX10_mean 60 = .ok (.aload_n 0, 1) := by decide +kernel
theorem dX10_mean_61 : decode cX10_mean 61 = .ok (.invokevirtual 78, 3) := by decide +kernel
theorem dX10_mean_64 : decode cX10_mean 64 = .ok (.i2l, 1) := by decide +kernel
theorem dX10_mean_65 : decode cX10_mean 65 = .ok (.iload_n 2, 1) := by decide +kernel
theorem dX10_mean_66 : decode cX10_mean 66 = .ok (.invokestatic 211, 3) := by decide +kernel
theorem dX10_mean_69 : decode cX10_mean 69 = .ok (.lreturn, 1) := by decide +kernel
theorem dX10_noSheet_0 : decode cX10_noSheet 0 = .ok (.iload_n 0, 1) := by decide +kernel
theorem dX10_noSheet_1 : decode cX10_noSheet 1 = .ok (.i2l, 1) := by decide +kernel
theorem dX10_noSheet_2 : decode cX10_noSheet 2 = .ok (.lconst 0, 1) := by decide +kernel
theorem dX10_noSheet_3 : decode cX10_noSheet 3 = .ok (.ldc2_w 144, 3) := by decide +kernel
theorem dX10_noSheet_6 : decode cX10_noSheet 6 = .ok (.invokestatic 74, 3) := by decide +kernel
theorem dX10_noSheet_9 : decode cX10_noSheet 9 = .ok (.ifCond .ne 7, 3) := by decide +kernel
theorem dX10_noSheet_12 : decode cX10_noSheet 12 = .ok (.iconst 1, 1) := by decide +kernel
theorem dX10_noSheet_13 : decode cX10_noSheet 13 = .ok (.goto 4, 3) := by decide +kernel
theorem dX10_noSheet_16 : decode cX10_noSheet 16 = .ok (.iconst 0, 1) := by decide +kernel
theorem dX10_noSheet_17 : decode cX10_noSheet 17 = .ok (.ireturn, 1) := by decide +kernel
theorem dX10_sheet_0 : decode cX10_sheet 0 = .ok (.iload_n 1, 1) := by decide +kernel
theorem dX10_sheet_1 : decode cX10_sheet 1 = .ok (.invokestatic 107, 3) := by decide +kernel
theorem dX10_sheet_4 : decode cX10_sheet 4 = .ok (.ifCond .eq 9, 3) := by decide +kernel
theorem dX10_sheet_7 : decode cX10_sheet 7 = .ok (.aload_n 0, 1) := by decide +kernel
theorem dX10_sheet_8 : decode cX10_sheet 8 = .ok (.iconst (-1), 1) := by decide +kernel
theorem dX10_sheet_9 : decode cX10_sheet 9 = .ok (.invokevirtual 111, 3) := by decide +kernel
theorem dX10_sheet_12 : decode cX10_sheet 12 = .ok (.ireturn, 1) := by decide +kernel
theorem dX10_sheet_13 : decode cX10_sheet 13 = .ok (.iload_n 2, 1) := by decide +kernel
theorem dX10_sheet_14 : decode cX10_sheet 14 = .ok (.i2l, 1) := by decide +kernel
theorem dX10_sheet_15 : decode cX10_sheet 15 = .ok (.lconst 0, 1) := by decide +kernel
theorem dX10_sheet_16 : decode cX10_sheet 16 = .ok (.ldc2_w 115, 3) := by decide +kernel
theorem dX10_sheet_19 : decode cX10_sheet 19 = .ok (.invokestatic 74, 3) := by decide +kernel
theorem dX10_sheet_22 : decode cX10_sheet 22 = .ok (.ifCond .eq 9, 3) := by decide +kernel
theorem dX10_sheet_25 : decode cX10_sheet 25 = .ok (.iload_n 3, 1) := by decide +kernel
theorem dX10_sheet_26 : decode cX10_sheet 26 = .ok (.bipush 60, 2) := by decide +kernel
theorem dX10_sheet_28 : decode cX10_sheet 28 = .ok (.if_icmp .le 10, 3) := by decide +kernel
theorem dX10_sheet_31 : decode cX10_sheet 31 = .ok (.aload_n 0, 1) := by decide +kernel
theorem dX10_sheet_32 : decode cX10_sheet 32 = .ok (.bipush (-2), 2) := by decide +kernel
theorem dX10_sheet_34 : decode cX10_sheet 34 = .ok (.invokevirtual 111, 3) := by decide +kernel
theorem dX10_sheet_37 : decode cX10_sheet 37 = .ok (.ireturn, 1) := by decide +kernel
theorem dX10_sheet_38 : decode cX10_sheet 38 = .ok (.iload_n 3, 1) := by decide +kernel
theorem dX10_sheet_39 : decode cX10_sheet 39 = .ok (.ifCond .ge 9, 3) := by decide +kernel
theorem dX10_sheet_42 : decode cX10_sheet 42 = .ok (.aload_n 0, 1) := by decide +kernel
theorem dX10_sheet_43 : decode cX10_sheet 43 = .ok (.iconst 4, 1) := by decide +kernel
theorem dX10_sheet_44 : decode cX10_sheet 44 = .ok (.invokevirtual 117, 3) := by decide +kernel
theorem dX10_sheet_47 : decode cX10_sheet 47 = .ok (.ireturn, 1) := by decide +kernel
theorem dX10_sheet_48 : decode cX10_sheet 48 = .ok (.aload_n 0, 1) := by decide +kernel
theorem dX10_sheet_49 : decode cX10_sheet 49 = .ok (.getfield 49, 3) := by decide +kernel
theorem dX10_sheet_52 : decode cX10_sheet 52 = .ok (.iload_n 1, 1) := by decide +kernel
theorem dX10_sheet_53 : decode cX10_sheet 53 = .ok (.iload_n 3, 1) := by decide +kernel
theorem dX10_sheet_54 : decode cX10_sheet 54 = .ok (.iastore, 1) := by decide +kernel
theorem dX10_sheet_55 : decode cX10_sheet 55 = .ok (.aload_n 0, 1) := by decide +kernel
theorem dX10_sheet_56 : decode cX10_sheet 56 = .ok (.getfield 52, 3) := by decide +kernel
theorem dX10_sheet_59 : decode cX10_sheet 59 = .ok (.iload_n 1, 1) := by decide +kernel
theorem dX10_sheet_60 : decode cX10_sheet 60 = .ok (.iload_n 2, 1) := by decide +kernel
theorem dX10_sheet_61 : decode cX10_sheet 61 = .ok (.iastore, 1) := by decide +kernel
theorem dX10_sheet_62 : decode cX10_sheet 62 = .ok (.iconst 0, 1) := by decide +kernel
theorem dX10_sheet_63 : decode cX10_sheet 63 = .ok (.istore 4, 2) := by decide +kernel
theorem dX10_sheet_65 : decode cX10_sheet 65 = .ok (.iload 4, 2) := by decide +kernel
theorem dX10_sheet_67 : decode cX10_sheet 67 = .ok (.iload_n 3, 1) := by decide +kernel
theorem dX10_sheet_68 : decode cX10_sheet 68 = .ok (.if_icmp .ge 22, 3) := by decide +kernel
theorem dX10_sheet_71 : decode cX10_sheet 71 = .ok (.aload_n 0, 1) := by decide +kernel
theorem dX10_sheet_72 : decode cX10_sheet 72 = .ok (.getfield 55, 3) := by decide +kernel
theorem dX10_sheet_75 : decode cX10_sheet 75 = .ok (.bipush 60, 2) := by decide +kernel
theorem dX10_sheet_77 : decode cX10_sheet 77 = .ok (.iload_n 1, 1) := by decide +kernel
theorem dX10_sheet_78 : decode cX10_sheet 78 = .ok (.imul, 1) := by decide +kernel
theorem dX10_sheet_79 : decode cX10_sheet 79 = .ok (.iload 4, 2) := by decide +kernel
theorem dX10_sheet_81 : decode cX10_sheet 81 = .ok (.iadd, 1) := by decide +kernel
theorem dX10_sheet_82 : decode cX10_sheet 82 = .ok (.iconst 0, 1) := by decide +kernel
theorem dX10_sheet_83 : decode cX10_sheet 83 = .ok (.iastore, 1) := by decide +kernel
theorem dX10_sheet_84 : decode cX10_sheet 84 = .ok (.iinc 4 1, 3) := by decide +kernel
theorem dX10_sheet_87 : decode cX10_sheet 87 = .ok (.goto (-22), 3) := by decide +kernel
theorem dX10_sheet_90 : decode cX10_sheet 90 = .ok (.aload_n 0, 1) := by decide +kernel
theorem dX10_sheet_91 : decode cX10_sheet 91 = .ok (.iconst 1, 1) := by decide +kernel
theorem dX10_sheet_92 : decode cX10_sheet 92 = .ok (.invokevirtual 111, 3) := by decide +kernel
theorem dX10_sheet_95 : decode cX10_sheet 95 = .ok (.ireturn, 1) := by decide +kernel
theorem dX10_lose_0 : decode cX10_lose 0 = .ok (.iload_n 1, 1) := by decide +kernel
theorem dX10_lose_1 : decode cX10_lose 1 = .ok (.invokestatic 107, 3) := by decide +kernel
theorem dX10_lose_4 : decode cX10_lose 4 = .ok (.ifCond .eq 5, 3) := by decide +kernel
theorem dX10_lose_7 : decode cX10_lose 7 = .ok (.iconst (-1), 1) := by decide +kernel
theorem dX10_lose_8 : decode cX10_lose 8 = .ok (.ireturn, 1) := by decide +kernel
theorem dX10_lose_9 : decode cX10_lose 9 = .ok (.aload_n 0, 1) := by decide +kernel
theorem dX10_lose_10 : decode cX10_lose 10 = .ok (.getfield 49, 3) := by decide +kernel
theorem dX10_lose_13 : decode cX10_lose 13 = .ok (.iload_n 1, 1) := by decide +kernel
theorem dX10_lose_14 : decode cX10_lose 14 = .ok (.iaload, 1) := by decide +kernel
theorem dX10_lose_15 : decode cX10_lose 15 = .ok (.ifCond .ge 7, 3) := by decide +kernel
theorem dX10_lose_18 : decode cX10_lose 18 = .ok (.iconst 0, 1) := by decide +kernel
theorem dX10_lose_19 : decode cX10_lose 19 = .ok (.goto 4, 3) := by decide +kernel
theorem dX10_lose_22 : decode cX10_lose 22 = .ok (.iconst 1, 1) := by decide +kernel
theorem dX10_lose_23 : decode cX10_lose 23 = .ok (.istore_n 2, 1) := by decide +kernel
theorem dX10_lose_24 : decode cX10_lose 24 = .ok (.aload_n 0, 1) := by decide +kernel
theorem dX10_lose_25 : decode cX10_lose 25 = .ok (.getfield 49, 3) := by decide +kernel
theorem dX10_lose_28 : decode cX10_lose 28 = .ok (.iload_n 1, 1) := by decide +kernel
theorem dX10_lose_29 : decode cX10_lose 29 = .ok (.iconst (-1), 1) := by decide +kernel
theorem dX10_lose_30 : decode cX10_lose 30 = .ok (.iastore, 1) := by decide +kernel
theorem dX10_lose_31 : decode cX10_lose 31 = .ok (.iload_n 2, 1) := by decide +kernel
theorem dX10_lose_32 : decode cX10_lose 32 = .ok (.ireturn, 1) := by decide +kernel
theorem dX10_noCell_0 : decode cX10_noCell 0 = .ok (.aload_n 0, 1) := by decide +kernel
theorem dX10_noCell_1 : decode cX10_noCell 1 = .ok (.getfield 49, 3) := by decide +kernel
theorem dX10_noCell_4 : decode cX10_noCell 4 = .ok (.iload_n 1, 1) := by decide +kernel
theorem dX10_noCell_5 : decode cX10_noCell 5 = .ok (.iaload, 1) := by decide +kernel
theorem dX10_noCell_6 : decode cX10_noCell 6 = .ok (.ifCond .ge 7, 3) := by decide +kernel
theorem dX10_noCell_9 : decode cX10_noCell 9 = .ok (.iconst 1, 1) := by decide +kernel
theorem dX10_noCell_10 : decode cX10_noCell 10 = .ok (.goto 26, 3) := by decide +kernel
theorem dX10_noCell_13 : decode cX10_noCell 13 = .ok (.iload_n 2, 1) := by decide +kernel
theorem dX10_noCell_14 : decode cX10_noCell 14 = .ok (.i2l, 1) := by decide +kernel
theorem dX10_noCell_15 : decode cX10_noCell 15 = .ok (.lconst 0, 1) := by decide +kernel
theorem dX10_noCell_16 : decode cX10_noCell 16 = .ok (.aload_n 0, 1) := by decide +kernel
theorem dX10_noCell_17 : decode cX10_noCell 17 = .ok (.getfield 49, 3) := by decide +kernel
theorem dX10_noCell_20 : decode cX10_noCell 20 = .ok (.iload_n 1, 1) := by decide +kernel
theorem dX10_noCell_21 : decode cX10_noCell 21 = .ok (.iaload, 1) := by decide +kernel
theorem dX10_noCell_22 : decode cX10_noCell 22 = .ok (.i2l, 1) := by decide +kernel
theorem dX10_noCell_23 : decode cX10_noCell 23 = .ok (.lconst 1, 1) := by decide +kernel
theorem dX10_noCell_24 : decode cX10_noCell 24 = .ok (.lsub, 1) := by decide +kernel
theorem dX10_noCell_25 : decode cX10_noCell 25 = .ok (.invokestatic 74, 3) := by decide +kernel
theorem dX10_noCell_28 : decode cX10_noCell 28 = .ok (.ifCond .eq 7, 3) := by decide +kernel
theorem dX10_noCell_31 : decode cX10_noCell 31 = .ok (.iconst 0, 1) := by decide +kernel
theorem dX10_noCell_32 : decode cX10_noCell 32 = .ok (.goto 4, 3) := by decide +kernel
theorem dX10_noCell_35 : decode cX10_noCell 35 = .ok (.iconst 3, 1) := by decide +kernel
theorem dX10_noCell_36 : decode cX10_noCell 36 = .ok (.ireturn, 1) := by decide +kernel
theorem dX10_put_0 : decode cX10_put 0 = .ok (.iload_n 1, 1) := by decide +kernel
theorem dX10_put_1 : decode cX10_put 1 = .ok (.invokestatic 107, 3) := by decide +kernel
theorem dX10_put_4 : decode cX10_put 4 = .ok (.ifCond .eq 9, 3) := by decide +kernel
theorem dX10_put_7 : decode cX10_put 7 = .ok (.aload_n 0, 1) := by decide +kernel
theorem dX10_put_8 : decode cX10_put 8 = .ok (.iconst (-1), 1) := by decide +kernel
theorem dX10_put_9 : decode cX10_put 9 = .ok (.invokevirtual 111, 3) := by decide +kernel
theorem dX10_put_12 : decode cX10_put 12 = .ok (.ireturn, 1) := by decide +kernel
theorem dX10_put_13 : decode cX10_put 13 = .ok (.aload_n 0, 1) := by decide +kernel
theorem dX10_put_14 : decode cX10_put 14 = .ok (.iload_n 1, 1) := by decide +kernel
theorem dX10_put_15 : decode cX10_put 15 = .ok (.iload_n 2, 1) := by decide +kernel
theorem dX10_put_16 : decode cX10_put 16 = .ok (.invokevirtual 215, 3) := by decide +kernel
theorem dX10_put_19 : decode cX10_put 19 = .ok (.ifCond .le 14, 3) := by decide +kernel
theorem dX10_put_22 : decode cX10_put 22 = .ok (.aload_n 0, 1) := by decide +kernel
theorem dX10_put_23 : decode cX10_put 23 = .ok (.aload_n 0, 1) := by decide +kernel
theorem dX10_put_24 : decode cX10_put 24 = .ok (.iload_n 1, 1) := by decide +kernel
theorem dX10_put_25 : decode cX10_put 25 = .ok (.iload_n 2, 1) := by decide +kernel
theorem dX10_put_26 : decode cX10_put 26 = .ok (.invokevirtual 215, 3) := by decide +kernel
theorem dX10_put_29 : decode cX10_put 29 = .ok (.invokevirtual 117, 3) := by decide +kernel
theorem dX10_put_32 : decode cX10_put 32 = .ok (.ireturn, 1) := by decide +kernel
theorem dX10_put_33 : decode cX10_put 33 = .ok (.aload_n 0, 1) := by decide +kernel
theorem dX10_put_34 : decode cX10_put 34 = .ok (.getfield 55, 3) := by decide +kernel
theorem dX10_put_37 : decode cX10_put 37 = .ok (.bipush 60, 2) := by decide +kernel
theorem dX10_put_39 : decode cX10_put 39 = .ok (.iload_n 1, 1) := by decide +kernel
theorem dX10_put_40 : decode cX10_put 40 = .ok (.imul, 1) := by decide +kernel
theorem dX10_put_41 : decode cX10_put 41 = .ok (.iload_n 2, 1) := by decide +kernel
theorem dX10_put_42 : decode cX10_put 42 = .ok (.iadd, 1) := by decide +kernel
theorem dX10_put_43 : decode cX10_put 43 = .ok (.aload_n 0, 1) := by decide +kernel
theorem dX10_put_44 : decode cX10_put 44 = .ok (.getfield 52, 3) := by decide +kernel
theorem dX10_put_47 : decode cX10_put 47 = .ok (.iload_n 1, 1) := by decide +kernel
theorem dX10_put_48 : decode cX10_put 48 = .ok (.iaload, 1) := by decide +kernel
theorem dX10_put_49 : decode cX10_put 49 = .ok (.ifCond .ne 8, 3) := by decide +kernel
theorem dX10_put_52 : decode cX10_put 52 = .ok (.iload_n 3, 1) := by decide +kernel
theorem dX10_put_53 : decode cX10_put 53 = .ok (.i2b, 1) := by decide +kernel
theorem dX10_put_54 : decode cX10_put 54 = .ok (.goto 19, 3) := by decide +kernel
theorem dX10_put_57 : decode cX10_put 57 = .ok (.aload_n 0, 1) := by decide +kernel
theorem dX10_put_58 : decode cX10_put 58 = .ok (.getfield 52, 3) := by decide +kernel
theorem dX10_put_61 : decode cX10_put 61 = .ok (.iload_n 1, 1) := by decide +kernel
theorem dX10_put_62 : decode cX10_put 62 = .ok (.iaload, 1) := by decide +kernel
theorem dX10_put_63 : decode cX10_put 63 = .ok (.iconst 1, 1) := by decide +kernel
theorem dX10_put_64 : decode cX10_put 64 = .ok (.if_icmp .ne 8, 3) := by decide +kernel
theorem dX10_put_67 : decode cX10_put 67 = .ok (.iload_n 3, 1) := by decide +kernel
theorem dX10_put_68 : decode cX10_put 68 = .ok (.i2s, 1) := by decide +kernel
theorem dX10_put_69 : decode cX10_put 69 = .ok (.goto 4, 3) := by decide +kernel
theorem dX10_put_72 : decode cX10_put 72 = .ok (.iload_n 3, 1) := by decide +kernel
theorem dX10_put_73 : decode cX10_put 73 = .ok (.iastore, 1) := by decide +kernel
theorem dX10_put_74 : decode cX10_put 74 = .ok (.aload_n 0, 1) := by decide +kernel
theorem dX10_put_75 : decode cX10_put 75 = .ok (.iconst 1, 1) := by decide +kernel
theorem dX10_put_76 : decode cX10_put 76 = .ok (.invokevirtual 111, 3) := by decide +kernel
theorem dX10_put_79 : decode cX10_put 79 = .ok (.ireturn, 1) := by decide +kernel
theorem dX10_cell_0 : decode cX10_cell 0 = .ok (.aload_n 0, 1) := by decide +kernel
theorem dX10_cell_1 : decode cX10_cell 1 = .ok (.iconst 0, 1) := by decide +kernel
theorem dX10_cell_2 : decode cX10_cell 2 = .ok (.putfield 63, 3) := by decide +kernel
theorem dX10_cell_5 : decode cX10_cell 5 = .ok (.iload_n 1, 1) := by decide +kernel
theorem dX10_cell_6 : decode cX10_cell 6 = .ok (.invokestatic 107, 3) := by decide +kernel
theorem dX10_cell_9 : decode cX10_cell 9 = .ok (.ifCond .ne 15, 3) := by decide +kernel
theorem dX10_cell_12 : decode cX10_cell 12 = .ok (.iload_n 3, 1) := by decide +kernel
theorem dX10_cell_13 : decode cX10_cell 13 = .ok (.i2l, 1) := by decide +kernel
theorem dX10_cell_14 : decode cX10_cell 14 = .ok (.lconst 0, 1) := by decide +kernel
theorem dX10_cell_15 : decode cX10_cell 15 = .ok (.ldc2_w 115, 3) := by decide +kernel
theorem dX10_cell_18 : decode cX10_cell 18 = .ok (.invokestatic 74, 3) := by decide +kernel
theorem dX10_cell_21 : decode cX10_cell 21 = .ok (.ifCond .ne 7, 3) := by decide +kernel
theorem dX10_cell_24 : decode cX10_cell 24 = .ok (.invokestatic 67, 3) := by decide +kernel
theorem dX10_cell_27 : decode cX10_cell 27 = .ok (.lreturn, 1) := by decide +kernel
theorem dX10_cell_28 : decode cX10_cell 28 = .ok (.aload_n 0, 1) := by decide +kernel
theorem dX10_cell_29 : decode cX10_cell 29 = .ok (.getfield 49, 3) := by decide +kernel
theorem dX10_cell_32 : decode cX10_cell 32 = .ok (.iload_n 1, 1) := by decide +kernel
theorem dX10_cell_33 : decode cX10_cell 33 = .ok (.iaload, 1) := by decide +kernel
theorem dX10_cell_34 : decode cX10_cell 34 = .ok (.ifCond .lt 19, 3) := by decide +kernel
theorem dX10_cell_37 : decode cX10_cell 37 = .ok (.aload_n 0, 1) := by decide +kernel
theorem dX10_cell_38 : decode cX10_cell 38 = .ok (.getfield 52, 3) := by decide +kernel
theorem dX10_cell_41 : decode cX10_cell 41 = .ok (.iload_n 1, 1) := by decide +kernel
theorem dX10_cell_42 : decode cX10_cell 42 = .ok (.iaload, 1) := by decide +kernel
theorem dX10_cell_43 : decode cX10_cell 43 = .ok (.iload_n 3, 1) := by decide +kernel
theorem dX10_cell_44 : decode cX10_cell 44 = .ok (.if_icmp .eq 9, 3) := by decide +kernel
theorem dX10_cell_47 : decode cX10_cell 47 = .ok (.aload_n 0, 1) := by decide +kernel
theorem dX10_cell_48 : decode cX10_cell 48 = .ok (.iconst 2, 1) := by decide +kernel
theorem dX10_cell_49 : decode cX10_cell 49 = .ok (.invokevirtual 218, 3) := by decide +kernel
theorem dX10_cell_52 : decode cX10_cell 52 = .ok (.lreturn, 1) := by decide +kernel
theorem dX10_cell_53 : decode cX10_cell 53 = .ok (.aload_n 0, 1) := by decide +kernel
theorem dX10_cell_54 : decode cX10_cell 54 = .ok (.iload_n 1, 1) := by decide +kernel
theorem dX10_cell_55 : decode cX10_cell 55 = .ok (.iload_n 2, 1) := by decide +kernel
theorem dX10_cell_56 : decode cX10_cell 56 = .ok (.invokevirtual 215, 3) := by decide +kernel
theorem dX10_cell_59 : decode cX10_cell 59 = .ok (.ifCond .le 16, 3) := by decide +kernel
theorem dX10_cell_62 : decode cX10_cell 62 = .ok (.aload_n 0, 1) := by decide +kernel
theorem dX10_cell_63 : decode cX10_cell 63 = .ok (.aload_n 0, 1) := by decide +kernel
theorem dX10_cell_64 : decode cX10_cell 64 = .ok (.iload_n 1, 1) := by decide +kernel
theorem dX10_cell_65 : decode cX10_cell 65 = .ok (.iload_n 2, 1) := by decide +kernel
theorem dX10_cell_66 : decode cX10_cell 66 = .ok (.invokevirtual 215, 3) := by decide +kernel
theorem dX10_cell_69 : decode cX10_cell 69 = .ok (.invokevirtual 218, 3) := by decide +kernel
theorem dX10_cell_72 : decode cX10_cell 72 = .ok (.goto 15, 3) := by decide +kernel
theorem dX10_cell_75 : decode cX10_cell 75 = .ok (.aload_n 0, 1) := by decide +kernel
theorem dX10_cell_76 : decode cX10_cell 76 = .ok (.getfield 55, 3) := by decide +kernel
theorem dX10_cell_79 : decode cX10_cell 79 = .ok (.bipush 60, 2) := by decide +kernel
theorem dX10_cell_81 : decode cX10_cell 81 = .ok (.iload_n 1, 1) := by decide +kernel
theorem dX10_cell_82 : decode cX10_cell 82 = .ok (.imul, 1) := by decide +kernel
theorem dX10_cell_83 : decode cX10_cell 83 = .ok (.iload_n 2, 1) := by decide +kernel
theorem dX10_cell_84 : decode cX10_cell 84 = .ok (.iadd, 1) := by decide +kernel
theorem dX10_cell_85 : decode cX10_cell 85 = .ok (.iaload, 1) := by decide +kernel
theorem dX10_cell_86 : decode cX10_cell 86 = .ok (.i2l, 1) := by decide +kernel
theorem dX10_cell_87 : decode cX10_cell 87 = .ok (.lreturn, 1) := by decide +kernel
theorem dX10_isBeyond_0 : decode cX10_isBeyond 0 = .ok (.iload_n 0, 1) := by decide +kernel
theorem dX10_isBeyond_1 : decode cX10_isBeyond 1 = .ok (.ifCond .lt 19, 3) := by decide +kernel
theorem dX10_isBeyond_4 : decode cX10_isBeyond 4 = .ok (.lload_n 1, 1) := by decide +kernel
theorem dX10_isBeyond_5 : decode cX10_isBeyond 5 = .ok (.lconst 0, 1) := by decide +kernel
theorem dX10_isBeyond_6 : decode cX10_isBeyond 6 = .ok (.lcmp, 1) := by decide +kernel
theorem dX10_isBeyond_7 : decode cX10_isBeyond 7 = .ok (.ifCond .lt 13, 3) := by decide +kernel
theorem dX10_isBeyond_10 : decode cX10_isBeyond 10 = .ok (.iload_n 0, 1) := by decide +kernel
theorem dX10_isBeyond_11 : decode cX10_isBeyond 11 = .ok (.i2l, 1) := by decide +kernel
theorem dX10_isBeyond_12 : decode cX10_isBeyond 12 = .ok (.lload_n 1, 1) := by decide +kernel
theorem dX10_isBeyond_13 : decode cX10_isBeyond 13 = .ok (.ladd, 1) := by decide +kernel
theorem dX10_isBeyond_14 : decode cX10_isBeyond 14 = .ok (.iload_n 3, 1) := by decide +kernel
theorem dX10_isBeyond_15 : decode cX10_isBeyond 15 = .ok (.i2l, 1) := by decide +kernel
theorem dX10_isBeyond_16 : decode cX10_isBeyond 16 = .ok (.lcmp, 1) := by decide +kernel
theorem dX10_isBeyond_17 : decode cX10_isBeyond 17 = .ok (.ifCond .le 7, 3) := by decide +kernel
theorem dX10_isBeyond_20 : decode cX10_isBeyond 20 = .ok (.iconst 1, 1) := by decide +kernel
theorem dX10_isBeyond_21 : decode cX10_isBeyond 21 = .ok (.goto 4, 3) := by decide +kernel
theorem dX10_isBeyond_24 : decode cX10_isBeyond 24 = .ok (.iconst 0, 1) := by decide +kernel
theorem dX10_isBeyond_25 : decode cX10_isBeyond 25 = .ok (.ireturn, 1) := by decide +kernel
theorem dX10_copy_0 : decode cX10_copy 0 = .ok (.iload_n 1, 1) := by decide +kernel
theorem dX10_copy_1 : decode cX10_copy 1 = .ok (.invokestatic 107, 3) := by decide +kernel
theorem dX10_copy_4 : decode cX10_copy 4 = .ok (.ifCond .ne 10, 3) := by decide +kernel
theorem dX10_copy_7 : decode cX10_copy 7 = .ok (.iload_n 3, 1) := by decide +kernel
theorem dX10_copy_8 : decode cX10_copy 8 = .ok (.invokestatic 107, 3) := by decide +kernel
theorem dX10_copy_11 : decode cX10_copy 11 = .ok (.ifCond .eq 9, 3) := by decide +kernel
theorem dX10_copy_14 : decode cX10_copy 14 = .ok (.aload_n 0, 1) := by decide +kernel
theorem dX10_copy_15 : decode cX10_copy 15 = .ok (.iconst (-1), 1) := by decide +kernel
theorem dX10_copy_16 : decode cX10_copy 16 = .ok (.invokevirtual 111, 3) := by decide +kernel
theorem dX10_copy_19 : decode cX10_copy 19 = .ok (.ireturn, 1) := by decide +kernel
theorem dX10_copy_20 : decode cX10_copy 20 = .ok (.aload_n 0, 1) := by decide +kernel
theorem dX10_copy_21 : decode cX10_copy 21 = .ok (.getfield 49, 3) := by decide +kernel
theorem dX10_copy_24 : decode cX10_copy 24 = .ok (.iload_n 1, 1) := by decide +kernel
theorem dX10_copy_25 : decode cX10_copy 25 = .ok (.iaload, 1) := by decide +kernel
theorem dX10_copy_26 : decode cX10_copy 26 = .ok (.ifCond .lt 12, 3) := by decide +kernel
theorem dX10_copy_29 : decode cX10_copy 29 = .ok (.aload_n 0, 1) := by decide +kernel
theorem dX10_copy_30 : decode cX10_copy 30 = .ok (.getfield 49, 3) := by decide +kernel
theorem dX10_copy_33 : decode cX10_copy 33 = .ok (.iload_n 3, 1) := by decide +kernel
theorem dX10_copy_34 : decode cX10_copy 34 = .ok (.iaload, 1) := by decide +kernel
theorem dX10_copy_35 : decode cX10_copy 35 = .ok (.ifCond .ge 9, 3) := by decide +kernel
theorem dX10_copy_38 : decode cX10_copy 38 = .ok (.aload_n 0, 1) := by decide +kernel
theorem dX10_copy_39 : decode cX10_copy 39 = .ok (.iconst 1, 1) := by decide +kernel
theorem dX10_copy_40 : decode cX10_copy 40 = .ok (.invokevirtual 117, 3) := by decide +kernel
theorem dX10_copy_43 : decode cX10_copy 43 = .ok (.ireturn, 1) := by decide +kernel
theorem dX10_copy_44 : decode cX10_copy 44 = .ok (.aload_n 0, 1) := by decide +kernel
theorem dX10_copy_45 : decode cX10_copy 45 = .ok (.getfield 52, 3) := by decide +kernel
theorem dX10_copy_48 : decode cX10_copy 48 = .ok (.iload_n 1, 1) := by decide +kernel
theorem dX10_copy_49 : decode cX10_copy 49 = .ok (.iaload, 1) := by decide +kernel
theorem dX10_copy_50 : decode cX10_copy 50 = .ok (.aload_n 0, 1) := by decide +kernel
theorem dX10_copy_51 : decode cX10_copy 51 = .ok (.getfield 52, 3) := by decide +kernel
theorem dX10_copy_54 : decode cX10_copy 54 = .ok (.iload_n 3, 1) := by decide +kernel
theorem dX10_copy_55 : decode cX10_copy 55 = .ok (.iaload, 1) := by decide +kernel
theorem dX10_copy_56 : decode cX10_copy 56 = .ok (.if_icmp .eq 9, 3) := by decide +kernel
theorem dX10_copy_59 : decode cX10_copy 59 = .ok (.aload_n 0, 1) := by decide +kernel
theorem dX10_copy_60 : decode cX10_copy 60 = .ok (.iconst 2, 1) := by decide +kernel
theorem dX10_copy_61 : decode cX10_copy 61 = .ok (.invokevirtual 117, 3) := by decide +kernel
theorem dX10_copy_64 : decode cX10_copy 64 = .ok (.ireturn, 1) := by decide +kernel
theorem dX10_copy_65 : decode cX10_copy 65 = .ok (.iload_n 2, 1) := by decide +kernel
theorem dX10_copy_66 : decode cX10_copy 66 = .ok (.iload 5, 2) := by decide +kernel
theorem dX10_copy_68 : decode cX10_copy 68 = .ok (.i2l, 1) := by decide +kernel
theorem dX10_copy_69 : decode cX10_copy 69 = .ok (.aload_n 0, 1) := by decide +kernel
theorem dX10_copy_70 : decode cX10_copy 70 = .ok (.getfield 49, 3) := by decide +kernel
theorem dX10_copy_73 : decode cX10_copy 73 = .ok (.iload_n 1, 1) := by decide +kernel
theorem dX10_copy_74 : decode cX10_copy 74 = .ok (.iaload, 1) := by decide +kernel
theorem dX10_copy_75 : decode cX10_copy 75 = .ok (.invokestatic 120, 3) := by decide +kernel
theorem dX10_copy_78 : decode cX10_copy 78 = .ok (.ifCond .ne 20, 3) := by decide +kernel
theorem dX10_copy_81 : decode cX10_copy 81 = .ok (.iload 4, 2) := by decide +kernel
theorem dX10_copy_83 : decode cX10_copy 83 = .ok (.iload 5, 2) := by decide +kernel
theorem dX10_copy_85 : decode cX10_copy 85 = .ok (.i2l, 1) := by decide +kernel
theorem dX10_copy_86 : decode cX10_copy 86 = .ok (.aload_n 0, 1) := by decide +kernel
theorem dX10_copy_87 : decode cX10_copy 87 = .ok (.getfield 49, 3) := by decide +kernel
theorem dX10_copy_90 : decode cX10_copy 90 = .ok (.iload_n 3, 1) := by decide +kernel
theorem dX10_copy_91 : decode cX10_copy 91 = .ok (.iaload, 1) := by decide +kernel
theorem dX10_copy_92 : decode cX10_copy 92 = .ok (.invokestatic 120, 3) := by decide +kernel
theorem dX10_copy_95 : decode cX10_copy 95 = .ok (.ifCond .eq 9, 3) := by decide +kernel
theorem dX10_copy_98 : decode cX10_copy 98 = .ok (.aload_n 0, 1) := by decide +kernel
theorem dX10_copy_99 : decode cX10_copy 99 = .ok (.iconst 3, 1) := by decide +kernel
theorem dX10_copy_100 : decode cX10_copy 100 = .ok (.invokevirtual 117, 3) := by decide +kernel
theorem dX10_copy_103 : decode cX10_copy 103 = .ok (.ireturn, 1) := by decide +kernel
theorem dX10_copy_104 : decode cX10_copy 104 = .ok (.iconst 0, 1) := by decide +kernel
theorem dX10_copy_105 : decode cX10_copy 105 = .ok (.istore 6, 2) := by decide +kernel
theorem dX10_copy_107 : decode cX10_copy 107 = .ok (.iload 6, 2) := by decide +kernel
theorem dX10_copy_109 : decode cX10_copy 109 = .ok (.iload 5, 2) := by decide +kernel
theorem dX10_copy_111 : decode cX10_copy 111 = .ok (.if_icmp .ge 30, 3) := by decide +kernel
theorem dX10_copy_114 : decode cX10_copy 114 = .ok (.aload_n 0, 1) := by decide +kernel
theorem dX10_copy_115 : decode cX10_copy 115 = .ok (.getfield 58, 3) := by decide +kernel
theorem dX10_copy_118 : decode cX10_copy 118 = .ok (.iload 6, 2) := by decide +kernel
theorem dX10_copy_120 : decode cX10_copy 120 = .ok (.aload_n 0, 1) := by decide +kernel
theorem dX10_copy_121 : decode cX10_copy 121 = .ok (.getfield 55, 3) := by decide +kernel
theorem dX10_copy_124 : decode cX10_copy 124 = .ok (.bipush 60, 2) := by decide +kernel
theorem dX10_copy_126 : decode cX10_copy 126 = .ok (.iload_n 1, 1) := by decide +kernel
theorem dX10_copy_127 : decode cX10_copy 127 = .ok (.imul, 1) := by decide +kernel
theorem dX10_copy_128 : decode cX10_copy 128 = .ok (.iload_n 2, 1) := by decide +kernel
theorem dX10_copy_129 : decode cX10_copy 129 = .ok (.iadd, 1) := by decide +kernel
theorem dX10_copy_130 : decode cX10_copy 130 = .ok (.iload 6, 2) := by decide +kernel
theorem dX10_copy_132 : decode cX10_copy 132 = .ok (.iadd, 1) := by decide +kernel
theorem dX10_copy_133 : decode cX10_copy 133 = .ok (.iaload, 1) := by decide +kernel
theorem dX10_copy_134 : decode cX10_copy 134 = .ok (.iastore, 1) := by decide +kernel
theorem dX10_copy_135 : decode cX10_copy 135 = .ok (.iinc 6 1, 3) := by decide +kernel
theorem dX10_copy_138 : decode cX10_copy 138 = .ok (.goto (-31), 3) := by decide +kernel
theorem dX10_copy_141 : decode cX10_copy 141 = .ok (.iconst 0, 1) := by decide +kernel
theorem dX10_copy_142 : decode cX10_copy 142 = .ok (.istore 6, 2) := by decide +kernel
theorem dX10_copy_144 : decode cX10_copy 144 = .ok (.iload 6, 2) := by decide +kernel
theorem dX10_copy_146 : decode cX10_copy 146 = .ok (.iload 5, 2) := by decide +kernel
theorem dX10_copy_148 : decode cX10_copy 148 = .ok (.if_icmp .ge 31, 3) := by decide +kernel
theorem dX10_copy_151 : decode cX10_copy 151 = .ok (.aload_n 0, 1) := by decide +kernel
theorem dX10_copy_152 : decode cX10_copy 152 = .ok (.getfield 55, 3) := by decide +kernel
theorem dX10_copy_155 : decode cX10_copy 155 = .ok (.bipush 60, 2) := by decide +kernel
theorem dX10_copy_157 : decode cX10_copy 157 = .ok (.iload_n 3, 1) := by decide +kernel
theorem dX10_copy_158 : decode cX10_copy 158 = .ok (.imul, 1) := by decide +kernel
theorem dX10_copy_159 : decode cX10_copy 159 = .ok (.iload 4, 2) := by decide +kernel
theorem dX10_copy_161 : decode cX10_copy 161 = .ok (.iadd, 1) := by decide +kernel
theorem dX10_copy_162 : decode cX10_copy 162 = .ok (.iload 6, 2) := by decide +kernel
theorem dX10_copy_164 : decode cX10_copy 164 = .ok (.iadd, 1) := by decide +kernel
theorem dX10_copy_165 : decode cX10_copy 165 = .ok (.aload_n 0, 1) := by decide +kernel
theorem dX10_copy_166 : decode cX10_copy 166 = .ok (.getfield 58, 3) := by decide +kernel
theorem dX10_copy_169 : decode cX10_copy 169 = .ok (.iload 6, 2) := by decide +kernel
theorem dX10_copy_171 : decode cX10_copy 171 = .ok (.iaload, 1) := by decide +kernel
theorem dX10_copy_172 : decode cX10_copy 172 = .ok (.iastore, 1) := by decide +kernel

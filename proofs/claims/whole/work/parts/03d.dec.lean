-- decode rows, by program (wip/whole/gen/emit_names.py)
theorem dX12_telling_42 : decode cX12_telling 42 = .ok (.aload_n 0, 1) := by decide +kernel
theorem dX12_telling_43 : decode cX12_telling 43 = .ok (.getfield 73, 3) := by decide +kernel
theorem dX12_telling_46 : decode cX12_telling 46 = .ok (.aload_n 0, 1) := by decide +kernel
theorem dX12_telling_47 : decode cX12_telling 47 = .ok (.getfield 251, 3) := by decide +kernel
theorem dX12_telling_50 : decode cX12_telling 50 = .ok (.iaload, 1) := by decide +kernel
theorem dX12_telling_51 : decode cX12_telling 51 = .ok (.if_icmp .ge 32, 3) := by decide +kernel
theorem dX12_telling_54 : decode cX12_telling 54 = .ok (.iload_n 3, 1) := by decide +kernel
theorem dX12_telling_55 : decode cX12_telling 55 = .ok (.ifCond .lt 19, 3) := by decide +kernel
theorem dX12_telling_58 : decode cX12_telling 58 = .ok (.aload_n 0, 1) := by decide +kernel
theorem dX12_telling_59 : decode cX12_telling 59 = .ok (.iload_n 1, 1) := by decide +kernel
theorem dX12_telling_60 : decode cX12_telling 60 = .ok (.iload 4, 2) := by decide +kernel
theorem dX12_telling_62 : decode cX12_telling 62 = .ok (.invokevirtual 441, 3) := by decide +kernel
theorem dX12_telling_65 : decode cX12_telling 65 = .ok (.aload_n 0, 1) := by decide +kernel
theorem dX12_telling_66 : decode cX12_telling 66 = .ok (.iload_n 1, 1) := by decide +kernel
theorem dX12_telling_67 : decode cX12_telling 67 = .ok (.iload_n 3, 1) := by decide +kernel
theorem dX12_telling_68 : decode cX12_telling 68 = .ok (.invokevirtual 441, 3) := by decide +kernel
theorem dX12_telling_71 : decode cX12_telling 71 = .ok (.if_icmp .le 6, 3) := by decide +kernel
theorem dX12_telling_74 : decode cX12_telling 74 = .ok (.iload 4, 2) := by decide +kernel
theorem dX12_telling_76 : decode cX12_telling 76 = .ok (.istore_n 3, 1) := by decide +kernel
theorem dX12_telling_77 : decode cX12_telling 77 = .ok (.iinc 4 1, 3) := by decide +kernel
theorem dX12_telling_80 : decode cX12_telling 80 = .ok (.goto (-40), 3) := by decide +kernel
theorem dX12_telling_83 : decode cX12_telling 83 = .ok (.iload_n 3, 1) := by decide +kernel
theorem dX12_telling_84 : decode cX12_telling 84 = .ok (.ifCond .lt 7, 3) := by decide +kernel
theorem dX12_telling_87 : decode cX12_telling 87 = .ok (.iload_n 2, 1) := by decide +kernel
theorem dX12_telling_88 : decode cX12_telling 88 = .ok (.ifCond .ne 7, 3) := by decide +kernel
theorem dX12_telling_91 : decode cX12_telling 91 = .ok (.iload_n 3, 1) := by decide +kernel
theorem dX12_telling_92 : decode cX12_telling 92 = .ok (.goto 9, 3) := by decide +kernel
theorem dX12_telling_95 : decode cX12_telling 95 = .ok (.aload_n 0, 1) := by decide +kernel
theorem dX12_telling_96 : decode cX12_telling 96 = .ok (.iload_n 1, 1) := by decide +kernel
theorem dX12_telling_97 : decode cX12_telling 97 = .ok (.iload_n 3, 1) := by decide +kernel
theorem dX12_telling_98 : decode cX12_telling 98 = .ok (.invokevirtual 441, 3) := by decide +kernel
theorem dX12_telling_101 : decode cX12_telling 101 = .ok (.ireturn, 1) := by decide +kernel
theorem dX12_firstOut_0 : decode cX12_firstOut 0 = .ok (.iconst 0, 1) := by decide +kernel
theorem dX12_firstOut_1 : decode cX12_firstOut 1 = .ok (.istore_n 1, 1) := by decide +kernel
theorem dX12_firstOut_2 : decode cX12_firstOut 2 = .ok (.iload_n 1, 1) := by decide +kernel
theorem dX12_firstOut_3 : decode cX12_firstOut 3 = .ok (.aload_n 0, 1) := by decide +kernel
theorem dX12_firstOut_4 : decode cX12_firstOut 4 = .ok (.getfield 61, 3) := by decide +kernel
theorem dX12_firstOut_7 : decode cX12_firstOut 7 = .ok (.aload_n 0, 1) := by decide +kernel
theorem dX12_firstOut_8 : decode cX12_firstOut 8 = .ok (.getfield 251, 3) := by decide +kernel
theorem dX12_firstOut_11 : decode cX12_firstOut 11 = .ok (.iaload, 1) := by decide +kernel
theorem dX12_firstOut_12 : decode cX12_firstOut 12 = .ok (.if_icmp .ge 19, 3) := by decide +kernel
theorem dX12_firstOut_15 : decode cX12_firstOut 15 = .ok (.aload_n 0, 1) := by decide +kernel
theorem dX12_firstOut_16 : decode cX12_firstOut 16 = .ok (.iload_n 1, 1) := by decide +kernel
theorem dX12_firstOut_17 : decode cX12_firstOut 17 = .ok (.invokevirtual 420, 3) := by decide +kernel
theorem dX12_firstOut_20 : decode cX12_firstOut 20 = .ok (.ifCond .eq 5, 3) := by decide +kernel
theorem dX12_firstOut_23 : decode cX12_firstOut 23 = .ok (.iload_n 1, 1) := by decide +kernel
theorem dX12_firstOut_24 : decode cX12_firstOut 24 = .ok (.ireturn, 1) := by decide +kernel
theorem dX12_firstOut_25 : decode cX12_firstOut 25 = .ok (.iinc 1 1, 3) := by decide +kernel
theorem dX12_firstOut_28 : decode cX12_firstOut 28 = .ok (.goto (-26), 3) := by decide +kernel
theorem dX12_firstOut_31 : decode cX12_firstOut 31 = .ok (.iconst (-1), 1) := by decide +kernel
theorem dX12_firstOut_32 : decode cX12_firstOut 32 = .ok (.ireturn, 1) := by decide +kernel
theorem dX12_keepBy_0 : decode cX12_keepBy 0 = .ok (.aload_n 0, 1) := by decide +kernel
theorem dX12_keepBy_1 : decode cX12_keepBy 1 = .ok (.getfield 128, 3) := by decide +kernel
theorem dX12_keepBy_4 : decode cX12_keepBy 4 = .ok (.bipush 36, 2) := by decide +kernel
theorem dX12_keepBy_6 : decode cX12_keepBy 6 = .ok (.iload_n 1, 1) := by decide +kernel
theorem dX12_keepBy_7 : decode cX12_keepBy 7 = .ok (.iadd, 1) := by decide +kernel
theorem dX12_keepBy_8 : decode cX12_keepBy 8 = .ok (.iaload, 1) := by decide +kernel
theorem dX12_keepBy_9 : decode cX12_keepBy 9 = .ok (.aload_n 0, 1) := by decide +kernel
theorem dX12_keepBy_10 : decode cX12_keepBy 10 = .ok (.aload_n 0, 1) := by decide +kernel
theorem dX12_keepBy_11 : decode cX12_keepBy 11 = .ok (.invokevirtual 444, 3) := by decide +kernel
theorem dX12_keepBy_14 : decode cX12_keepBy 14 = .ok (.iload_n 1, 1) := by decide +kernel
theorem dX12_keepBy_15 : decode cX12_keepBy 15 = .ok (.invokevirtual 373, 3) := by decide +kernel
theorem dX12_keepBy_18 : decode cX12_keepBy 18 = .ok (.isub, 1) := by decide +kernel
theorem dX12_keepBy_19 : decode cX12_keepBy 19 = .ok (.ireturn, 1) := by decide +kernel
theorem dX12_keep_0 : decode cX12_keep 0 = .ok (.aload_n 0, 1) := by decide +kernel
theorem dX12_keep_1 : decode cX12_keep 1 = .ok (.invokevirtual 347, 3) := by decide +kernel
theorem dX12_keep_4 : decode cX12_keep 4 = .ok (.bipush (-2), 2) := by decide +kernel
theorem dX12_keep_6 : decode cX12_keep 6 = .ok (.istore_n 1, 1) := by decide +kernel
theorem dX12_keep_7 : decode cX12_keep 7 = .ok (.iconst 0, 1) := by decide +kernel
theorem dX12_keep_8 : decode cX12_keep 8 = .ok (.istore_n 2, 1) := by decide +kernel
theorem dX12_keep_9 : decode cX12_keep 9 = .ok (.iload_n 2, 1) := by decide +kernel
theorem dX12_keep_10 : decode cX12_keep 10 = .ok (.aload_n 0, 1) := by decide +kernel
theorem dX12_keep_11 : decode cX12_keep 11 = .ok (.getfield 73, 3) := by decide +kernel
theorem dX12_keep_14 : decode cX12_keep 14 = .ok (.aload_n 0, 1) := by decide +kernel
theorem dX12_keep_15 : decode cX12_keep 15 = .ok (.getfield 251, 3) := by decide +kernel
theorem dX12_keep_18 : decode cX12_keep 18 = .ok (.iaload, 1) := by decide +kernel
theorem dX12_keep_19 : decode cX12_keep 19 = .ok (.if_icmp .ge 35, 3) := by decide +kernel
theorem dX12_keep_22 : decode cX12_keep 22 = .ok (.aload_n 0, 1) := by decide +kernel
theorem dX12_keep_23 : decode cX12_keep 23 = .ok (.invokevirtual 444, 3) := by decide +kernel
theorem dX12_keep_26 : decode cX12_keep 26 = .ok (.ifCond .lt 28, 3) := by decide +kernel
theorem dX12_keep_29 : decode cX12_keep 29 = .ok (.iload_n 1, 1) := by decide +kernel
theorem dX12_keep_30 : decode cX12_keep 30 = .ok (.ifCond .lt 16, 3) := by decide +kernel
theorem dX12_keep_33 : decode cX12_keep 33 = .ok (.aload_n 0, 1) := by decide +kernel
theorem dX12_keep_34 : decode cX12_keep 34 = .ok (.iload_n 2, 1) := by decide +kernel
theorem dX12_keep_35 : decode cX12_keep 35 = .ok (.invokevirtual 447, 3) := by decide +kernel
theorem dX12_keep_38 : decode cX12_keep 38 = .ok (.aload_n 0, 1) := by decide +kernel
theorem dX12_keep_39 : decode cX12_keep 39 = .ok (.iload_n 1, 1) := by decide +kernel
theorem dX12_keep_40 : decode cX12_keep 40 = .ok (.invokevirtual 447, 3) := by decide +kernel
theorem dX12_keep_43 : decode cX12_keep 43 = .ok (.if_icmp .le 5, 3) := by decide +kernel
theorem dX12_keep_46 : decode cX12_keep 46 = .ok (.iload_n 2, 1) := by decide +kernel
theorem dX12_keep_47 : decode cX12_keep 47 = .ok (.istore_n 1, 1) := by decide +kernel
theorem dX12_keep_48 : decode cX12_keep 48 = .ok (.iinc 2 1, 3) := by decide +kernel
theorem dX12_keep_51 : decode cX12_keep 51 = .ok (.goto (-42), 3) := by decide +kernel
theorem dX12_keep_54 : decode cX12_keep 54 = .ok (.iload_n 1, 1) := by decide +kernel
theorem dX12_keep_55 : decode cX12_keep 55 = .ok (.ireturn, 1) := by decide +kernel
theorem dX12_twins_0 : decode cX12_twins 0 = .ok (.iload_n 1, 1) := by decide +kernel
theorem dX12_twins_1 : decode cX12_twins 1 = .ok (.iconst 0, 1) := by decide +kernel
theorem dX12_twins_2 : decode cX12_twins 2 = .ok (.iconst 1, 1) := by decide +kernel
theorem dX12_twins_3 : decode cX12_twins 3 = .ok (.invokestatic 334, 3) := by decide +kernel
theorem dX12_twins_6 : decode cX12_twins 6 = .ok (.ifCond .ne 5, 3) := by decide +kernel
theorem dX12_twins_9 : decode cX12_twins 9 = .ok (.iconst (-1), 1) := by decide +kernel
theorem dX12_twins_10 : decode cX12_twins 10 = .ok (.ireturn, 1) := by decide +kernel
theorem dX12_twins_11 : decode cX12_twins 11 = .ok (.aload_n 0, 1) := by decide +kernel
theorem dX12_twins_12 : decode cX12_twins 12 = .ok (.invokevirtual 347, 3) := by decide +kernel
theorem dX12_twins_15 : decode cX12_twins 15 = .ok (.bipush (-2), 2) := by decide +kernel
theorem dX12_twins_17 : decode cX12_twins 17 = .ok (.istore_n 2, 1) := by decide +kernel
theorem dX12_twins_18 : decode cX12_twins 18 = .ok (.bipush (-2), 2) := by decide +kernel
theorem dX12_twins_20 : decode cX12_twins 20 = .ok (.istore_n 3, 1) := by decide +kernel
theorem dX12_twins_21 : decode cX12_twins 21 = .ok (.iconst 0, 1) := by decide +kernel
theorem dX12_twins_22 : decode cX12_twins 22 = .ok (.istore 4, 2) := by decide +kernel
theorem dX12_twins_24 : decode cX12_twins 24 = .ok (.iload 4, 2) := by decide +kernel
theorem dX12_twins_26 : decode cX12_twins 26 = .ok (.aload_n 0, 1) := by decide +kernel
theorem dX12_twins_27 : decode cX12_twins 27 = .ok (.getfield 73, 3) := by decide +kernel
theorem dX12_twins_30 : decode cX12_twins 30 = .ok (.aload_n 0, 1) := by decide +kernel
theorem dX12_twins_31 : decode cX12_twins 31 = .ok (.getfield 251, 3) := by decide +kernel
theorem dX12_twins_34 : decode cX12_twins 34 = .ok (.iaload, 1) := by decide +kernel
theorem dX12_twins_35 : decode cX12_twins 35 = .ok (.if_icmp .ge 132, 3) := by decide +kernel
theorem dX12_twins_38 : decode cX12_twins 38 = .ok (.iload 4, 2) := by decide +kernel
theorem dX12_twins_40 : decode cX12_twins 40 = .ok (.iconst 1, 1) := by decide +kernel
theorem dX12_twins_41 : decode cX12_twins 41 = .ok (.iadd, 1) := by decide +kernel
theorem dX12_twins_42 : decode cX12_twins 42 = .ok (.istore 5, 2) := by decide +kernel
theorem dX12_twins_44 : decode cX12_twins 44 = .ok (.iload 5, 2) := by decide +kernel
theorem dX12_twins_46 : decode cX12_twins 46 = .ok (.aload_n 0, 1) := by decide +kernel
theorem dX12_twins_47 : decode cX12_twins 47 = .ok (.getfield 73, 3) := by decide +kernel
theorem dX12_twins_50 : decode cX12_twins 50 = .ok (.aload_n 0, 1) := by decide +kernel
theorem dX12_twins_51 : decode cX12_twins 51 = .ok (.getfield 251, 3) := by decide +kernel
theorem dX12_twins_54 : decode cX12_twins 54 = .ok (.iaload, 1) := by decide +kernel
theorem dX12_twins_55 : decode cX12_twins 55 = .ok (.if_icmp .ge 106, 3) := by decide +kernel
theorem dX12_twins_58 : decode cX12_twins 58 = .ok (.iconst 0, 1) := by decide +kernel
theorem dX12_twins_59 : decode cX12_twins 59 = .ok (.istore 6, 2) := by decide +kernel
theorem dX12_twins_61 : decode cX12_twins 61 = .ok (.iconst 0, 1) := by decide +kernel
theorem dX12_twins_62 : decode cX12_twins 62 = .ok (.istore 7, 2) := by decide +kernel
theorem dX12_twins_64 : decode cX12_twins 64 = .ok (.iload 7, 2) := by decide +kernel
theorem dX12_twins_66 : decode cX12_twins 66 = .ok (.aload_n 0, 1) := by decide +kernel
theorem dX12_twins_67 : decode cX12_twins 67 = .ok (.getfield 61, 3) := by decide +kernel
theorem dX12_twins_70 : decode cX12_twins 70 = .ok (.aload_n 0, 1) := by decide +kernel
theorem dX12_twins_71 : decode cX12_twins 71 = .ok (.getfield 251, 3) := by decide +kernel
theorem dX12_twins_74 : decode cX12_twins 74 = .ok (.iaload, 1) := by decide +kernel
theorem dX12_twins_75 : decode cX12_twins 75 = .ok (.if_icmp .ge 55, 3) := by decide +kernel
theorem dX12_twins_78 : decode cX12_twins 78 = .ok (.aload_n 0, 1) := by decide +kernel
theorem dX12_twins_79 : decode cX12_twins 79 = .ok (.iload 7, 2) := by decide +kernel
theorem dX12_twins_81 : decode cX12_twins 81 = .ok (.iload 4, 2) := by decide +kernel
theorem dX12_twins_83 : decode cX12_twins 83 = .ok (.invokevirtual 370, 3) := by decide +kernel
theorem dX12_twins_86 : decode cX12_twins 86 = .ok (.aload_n 0, 1) := by decide +kernel
theorem dX12_twins_87 : decode cX12_twins 87 = .ok (.iload 7, 2) := by decide +kernel
theorem dX12_twins_89 : decode cX12_twins 89 = .ok (.iload 5, 2) := by decide +kernel
theorem dX12_twins_91 : decode cX12_twins 91 = .ok (.invokevirtual 370, 3) := by decide +kernel
theorem dX12_twins_94 : decode cX12_twins 94 = .ok (.isub, 1) := by decide +kernel
theorem dX12_twins_95 : decode cX12_twins 95 = .ok (.istore 8, 2) := by decide +kernel
theorem dX12_twins_97 : decode cX12_twins 97 = .ok (.aload_n 0, 1) := by decide +kernel
theorem dX12_twins_98 : decode cX12_twins 98 = .ok (.iload 7, 2) := by decide +kernel
theorem dX12_twins_100 : decode cX12_twins 100 = .ok (.invokevirtual 420, 3) := by decide +kernel
theorem dX12_twins_103 : decode cX12_twins 103 = .ok (.ifCond .eq 21, 3) := by decide +kernel
theorem dX12_twins_106 : decode cX12_twins 106 = .ok (.iload 6, 2) := by decide +kernel
theorem dX12_twins_108 : decode cX12_twins 108 = .ok (.iload 8, 2) := by decide +kernel
theorem dX12_twins_110 : decode cX12_twins 110 = .ok (.ifCond .ge 9, 3) := by decide +kernel
theorem dX12_twins_113 : decode cX12_twins 113 = .ok (.iload 8, 2) := by decide +kernel
theorem dX12_twins_115 : decode cX12_twins 115 = .ok (.ineg, 1) := by decide +kernel
theorem dX12_twins_116 : decode cX12_twins 116 = .ok (.goto 5, 3) := by decide +kernel
theorem dX12_twins_119 : decode cX12_twins 119 = .ok (.iload 8, 2) := by decide +kernel
theorem dX12_twins_121 : decode cX12_twins 121 = .ok (.iadd, 1) := by decide +kernel
theorem dX12_twins_122 : decode cX12_twins 122 = .ok (.istore 6, 2) := by decide +kernel
theorem dX12_twins_124 : decode cX12_twins 124 = .ok (.iinc 7 1, 3) := by decide +kernel
theorem dX12_twins_127 : decode cX12_twins 127 = .ok (.goto (-63), 3) := by decide +kernel
theorem dX12_twins_130 : decode cX12_twins 130 = .ok (.iload_n 2, 1) := by decide +kernel
theorem dX12_twins_131 : decode cX12_twins 131 = .ok (.ifCond .lt 12, 3) := by decide +kernel
theorem dX12_twins_134 : decode cX12_twins 134 = .ok (.iload 6, 2) := by decide +kernel
theorem dX12_twins_136 : decode cX12_twins 136 = .ok (.iload_n 3, 1) := by decide +kernel
theorem dX12_twins_137 : decode cX12_twins 137 = .ok (.if_icmp .lt 6, 3) := by decide +kernel
theorem dX12_twins_140 : decode cX12_twins 140 = .ok (.goto 15, 3) := by decide +kernel
theorem dX12_twins_143 : decode cX12_twins 143 = .ok (.bipush 10, 2) := by decide +kernel
theorem dX12_twins_145 : decode cX12_twins 145 = .ok (.iload 4, 2) := by decide +kernel
theorem dX12_twins_147 : decode cX12_twins 147 = .ok (.imul, 1) := by decide +kernel
theorem dX12_twins_148 : decode cX12_twins 148 = .ok (.iload 5, 2) := by decide +kernel
theorem dX12_twins_150 : decode cX12_twins 150 = .ok (.iadd, 1) := by decide +kernel
theorem dX12_twins_151 : decode cX12_twins 151 = .ok (.istore_n 2, 1) := by decide +kernel
theorem dX12_twins_152 : decode cX12_twins 152 = .ok (.iload 6, 2) := by decide +kernel
theorem dX12_twins_154 : decode cX12_twins 154 = .ok (.istore_n 3, 1) := by decide +kernel
theorem dX12_twins_155 : decode cX12_twins 155 = .ok (.iinc 5 1, 3) := by decide +kernel
theorem dX12_twins_158 : decode cX12_twins 158 = .ok (.goto (-114), 3) := by decide +kernel
theorem dX12_twins_161 : decode cX12_twins 161 = .ok (.iinc 4 1, 3) := by decide +kernel
theorem dX12_twins_164 : decode cX12_twins 164 = .ok (.goto (-140), 3) := by decide +kernel
theorem dX12_twins_167 : decode cX12_twins 167 = .ok (.iload_n 1, 1) := by decide +kernel
theorem dX12_twins_168 : decode cX12_twins 168 = .ok (.ifCond .ne 7, 3) := by decide +kernel
theorem dX12_twins_171 : decode cX12_twins 171 = .ok (.iload_n 2, 1) := by decide +kernel
theorem dX12_twins_172 : decode cX12_twins 172 = .ok (.goto 4, 3) := by decide +kernel
theorem dX12_twins_175 : decode cX12_twins 175 = .ok (.iload_n 3, 1) := by decide +kernel
theorem dX12_twins_176 : decode cX12_twins 176 = .ok (.ireturn, 1) := by decide +kernel
theorem dX12_fillsFar_0 : decode cX12_fillsFar 0 = .ok (.iconst 0, 1) := by decide +kernel
theorem dX12_fillsFar_1 : decode cX12_fillsFar 1 = .ok (.istore 4, 2) := by decide +kernel
theorem dX12_fillsFar_3 : decode cX12_fillsFar 3 = .ok (.iload 4, 2) := by decide +kernel
theorem dX12_fillsFar_5 : decode cX12_fillsFar 5 = .ok (.bipush 7, 2) := by decide +kernel
theorem dX12_fillsFar_7 : decode cX12_fillsFar 7 = .ok (.if_icmp .ge 29, 3) := by decide +kernel
theorem dX12_fillsFar_10 : decode cX12_fillsFar 10 = .ok (.aload_n 0, 1) := by decide +kernel
theorem dX12_fillsFar_11 : decode cX12_fillsFar 11 = .ok (.getfield 146, 3) := by decide +kernel
theorem dX12_fillsFar_14 : decode cX12_fillsFar 14 = .ok (.iload 4, 2) := by decide +kernel
theorem dX12_fillsFar_16 : decode cX12_fillsFar 16 = .ok (.iload 4, 2) := by decide +kernel
theorem dX12_fillsFar_18 : decode cX12_fillsFar 18 = .ok (.iload_n 1, 1) := by decide +kernel
theorem dX12_fillsFar_19 : decode cX12_fillsFar 19 = .ok (.if_icmp .ne 7, 3) := by decide +kernel
theorem dX12_fillsFar_22 : decode cX12_fillsFar 22 = .ok (.iconst 0, 1) := by decide +kernel
theorem dX12_fillsFar_23 : decode cX12_fillsFar 23 = .ok (.goto 6, 3) := by decide +kernel
theorem dX12_fillsFar_26 : decode cX12_fillsFar 26 = .ok (.sipush 1000, 3) := by decide +kernel
theorem dX12_fillsFar_29 : decode cX12_fillsFar 29 = .ok (.iastore, 1) := by decide +kernel
theorem dX12_fillsFar_30 : decode cX12_fillsFar 30 = .ok (.iinc 4 1, 3) := by decide +kernel
theorem dX12_fillsFar_33 : decode cX12_fillsFar 33 = .ok (.goto (-30), 3) := by decide +kernel
theorem dX12_fillsFar_36 : decode cX12_fillsFar 36 = .ok (.iconst 0, 1) := by decide +kernel
theorem dX12_fillsFar_37 : decode cX12_fillsFar 37 = .ok (.istore 4, 2) := by decide +kernel
theorem dX12_fillsFar_39 : decode cX12_fillsFar 39 = .ok (.iload 4, 2) := by decide +kernel
theorem dX12_fillsFar_41 : decode cX12_fillsFar 41 = .ok (.bipush 7, 2) := by decide +kernel
theorem dX12_fillsFar_43 : decode cX12_fillsFar 43 = .ok (.if_icmp .ge 170, 3) := by decide +kernel
theorem dX12_fillsFar_46 : decode cX12_fillsFar 46 = .ok (.iconst 0, 1) := by decide +kernel
theorem dX12_fillsFar_47 : decode cX12_fillsFar 47 = .ok (.istore 5, 2) := by decide +kernel
theorem dX12_fillsFar_49 : decode cX12_fillsFar 49 = .ok (.iload 5, 2) := by decide +kernel
theorem dX12_fillsFar_51 : decode cX12_fillsFar 51 = .ok (.aload_n 0, 1) := by decide +kernel
theorem dX12_fillsFar_52 : decode cX12_fillsFar 52 = .ok (.getfield 49, 3) := by decide +kernel
theorem dX12_fillsFar_55 : decode cX12_fillsFar 55 = .ok (.aload_n 0, 1) := by decide +kernel
theorem dX12_fillsFar_56 : decode cX12_fillsFar 56 = .ok (.getfield 251, 3) := by decide +kernel
theorem dX12_fillsFar_59 : decode cX12_fillsFar 59 = .ok (.iaload, 1) := by decide +kernel
theorem dX12_fillsFar_60 : decode cX12_fillsFar 60 = .ok (.if_icmp .ge 147, 3) := by decide +kernel
theorem dX12_fillsFar_63 : decode cX12_fillsFar 63 = .ok (.iload_n 3, 1) := by decide +kernel
theorem dX12_fillsFar_64 : decode cX12_fillsFar 64 = .ok (.iload 5, 2) := by decide +kernel
theorem dX12_fillsFar_66 : decode cX12_fillsFar 66 = .ok (.ishr, 1) := by decide +kernel
theorem dX12_fillsFar_67 : decode cX12_fillsFar 67 = .ok (.iconst 1, 1) := by decide +kernel
theorem dX12_fillsFar_68 : decode cX12_fillsFar 68 = .ok (.iand, 1) := by decide +kernel
theorem dX12_fillsFar_69 : decode cX12_fillsFar 69 = .ok (.iconst 1, 1) := by decide +kernel
theorem dX12_fillsFar_70 : decode cX12_fillsFar 70 = .ok (.if_icmp .ne 6, 3) := by decide +kernel
theorem dX12_fillsFar_73 : decode cX12_fillsFar 73 = .ok (.goto 128, 3) := by decide +kernel
theorem dX12_fillsFar_76 : decode cX12_fillsFar 76 = .ok (.iload_n 2, 1) := by decide +kernel
theorem dX12_fillsFar_77 : decode cX12_fillsFar 77 = .ok (.iload 5, 2) := by decide +kernel
theorem dX12_fillsFar_79 : decode cX12_fillsFar 79 = .ok (.ishr, 1) := by decide +kernel
theorem dX12_fillsFar_80 : decode cX12_fillsFar 80 = .ok (.iconst 1, 1) := by decide +kernel
theorem dX12_fillsFar_81 : decode cX12_fillsFar 81 = .ok (.iand, 1) := by decide +kernel
theorem dX12_fillsFar_82 : decode cX12_fillsFar 82 = .ok (.iconst 1, 1) := by decide +kernel
theorem dX12_fillsFar_83 : decode cX12_fillsFar 83 = .ok (.if_icmp .ne 7, 3) := by decide +kernel
theorem dX12_fillsFar_86 : decode cX12_fillsFar 86 = .ok (.iconst 0, 1) := by decide +kernel
theorem dX12_fillsFar_87 : decode cX12_fillsFar 87 = .ok (.goto 4, 3) := by decide +kernel
theorem dX12_fillsFar_90 : decode cX12_fillsFar 90 = .ok (.iconst 1, 1) := by decide +kernel
theorem dX12_fillsFar_91 : decode cX12_fillsFar 91 = .ok (.istore 6, 2) := by decide +kernel
theorem dX12_fillsFar_93 : decode cX12_fillsFar 93 = .ok (.aload_n 0, 1) := by decide +kernel
theorem dX12_fillsFar_94 : decode cX12_fillsFar 94 = .ok (.getfield 52, 3) := by decide +kernel
theorem dX12_fillsFar_97 : decode cX12_fillsFar 97 = .ok (.bipush 10, 2) := by decide +kernel
theorem dX12_fillsFar_99 : decode cX12_fillsFar 99 = .ok (.aload_n 0, 1) := by decide +kernel
theorem dX12_fillsFar_100 : decode cX12_fillsFar 100 = .ok (.getfield 251, 3) := by decide +kernel
theorem dX12_fillsFar_103 : decode cX12_fillsFar 103 = .ok (.imul, 1) := by decide +kernel
theorem dX12_fillsFar_104 : decode cX12_fillsFar 104 = .ok (.iload 5, 2) := by decide +kernel
theorem dX12_fillsFar_106 : decode cX12_fillsFar 106 = .ok (.iadd, 1) := by decide +kernel
theorem dX12_fillsFar_107 : decode cX12_fillsFar 107 = .ok (.iaload, 1) := by decide +kernel
theorem dX12_fillsFar_108 : decode cX12_fillsFar 108 = .ok (.istore 7, 2) := by decide +kernel
theorem dX12_fillsFar_110 : decode cX12_fillsFar 110 = .ok (.aload_n 0, 1) := by decide +kernel
theorem dX12_fillsFar_111 : decode cX12_fillsFar 111 = .ok (.getfield 55, 3) := by decide +kernel
theorem dX12_fillsFar_114 : decode cX12_fillsFar 114 = .ok (.bipush 10, 2) := by decide +kernel
theorem dX12_fillsFar_116 : decode cX12_fillsFar 116 = .ok (.aload_n 0, 1) := by decide +kernel
theorem dX12_fillsFar_117 : decode cX12_fillsFar 117 = .ok (.getfield 251, 3) := by decide +kernel
theorem dX12_fillsFar_120 : decode cX12_fillsFar 120 = .ok (.imul, 1) := by decide +kernel
theorem dX12_fillsFar_121 : decode cX12_fillsFar 121 = .ok (.iload 5, 2) := by decide +kernel
theorem dX12_fillsFar_123 : decode cX12_fillsFar 123 = .ok (.iadd, 1) := by decide +kernel
theorem dX12_fillsFar_124 : decode cX12_fillsFar 124 = .ok (.iaload, 1) := by decide +kernel
theorem dX12_fillsFar_125 : decode cX12_fillsFar 125 = .ok (.istore 8, 2) := by decide +kernel
theorem dX12_fillsFar_127 : decode cX12_fillsFar 127 = .ok (.aload_n 0, 1) := by decide +kernel
theorem dX12_fillsFar_128 : decode cX12_fillsFar 128 = .ok (.getfield 146, 3) := by decide +kernel
theorem dX12_fillsFar_131 : decode cX12_fillsFar 131 = .ok (.iload 7, 2) := by decide +kernel
theorem dX12_fillsFar_133 : decode cX12_fillsFar 133 = .ok (.iaload, 1) := by decide +kernel
theorem dX12_fillsFar_134 : decode cX12_fillsFar 134 = .ok (.iload 6, 2) := by decide +kernel
theorem dX12_fillsFar_136 : decode cX12_fillsFar 136 = .ok (.iadd, 1) := by decide +kernel
theorem dX12_fillsFar_137 : decode cX12_fillsFar 137 = .ok (.aload_n 0, 1) := by decide +kernel
theorem dX12_fillsFar_138 : decode cX12_fillsFar 138 = .ok (.getfield 146, 3) := by decide +kernel
theorem dX12_fillsFar_141 : decode cX12_fillsFar 141 = .ok (.iload 8, 2) := by decide +kernel
theorem dX12_fillsFar_143 : decode cX12_fillsFar 143 = .ok (.iaload, 1) := by decide +kernel
theorem dX12_fillsFar_144 : decode cX12_fillsFar 144 = .ok (.if_icmp .ge 20, 3) := by decide +kernel
theorem dX12_fillsFar_147 : decode cX12_fillsFar 147 = .ok (.aload_n 0, 1) := by decide +kernel
theorem dX12_fillsFar_148 : decode cX12_fillsFar 148 = .ok (.getfield 146, 3) := by decide +kernel
theorem dX12_fillsFar_151 : decode cX12_fillsFar 151 = .ok (.iload 8, 2) := by decide +kernel
theorem dX12_fillsFar_153 : decode cX12_fillsFar 153 = .ok (.aload_n 0, 1) := by decide +kernel
theorem dX12_fillsFar_154 : decode cX12_fillsFar 154 = .ok (.getfield 146, 3) := by decide +kernel
theorem dX12_fillsFar_157 : decode cX12_fillsFar 157 = .ok (.iload 7, 2) := by decide +kernel
theorem dX12_fillsFar_159 : decode cX12_fillsFar 159 = .ok (.iaload, 1) := by decide +kernel
theorem dX12_fillsFar_160 : decode cX12_fillsFar 160 = .ok (.iload 6, 2) := by decide +kernel
theorem dX12_fillsFar_162 : decode cX12_fillsFar 162 = .ok (.iadd, 1) := by decide +kernel
theorem dX12_fillsFar_163 : decode cX12_fillsFar 163 = .ok (.iastore, 1) := by decide +kernel
theorem dX12_fillsFar_164 : decode cX12_fillsFar 164 = .ok (.aload_n 0, 1) := by decide +kernel
theorem dX12_fillsFar_165 : decode cX12_fillsFar 165 = .ok (.getfield 146, 3) := by decide +kernel
theorem dX12_fillsFar_168 : decode cX12_fillsFar 168 = .ok (.iload 8, 2) := by decide +kernel
theorem dX12_fillsFar_170 : decode cX12_fillsFar 170 = .ok (.iaload, 1) := by decide +kernel
theorem dX12_fillsFar_171 : decode cX12_fillsFar 171 = .ok (.iload 6, 2) := by decide +kernel
theorem dX12_fillsFar_173 : decode cX12_fillsFar 173 = .ok (.iadd, 1) := by decide +kernel
theorem dX12_fillsFar_174 : decode cX12_fillsFar 174 = .ok (.aload_n 0, 1) := by decide +kernel
theorem dX12_fillsFar_175 : decode cX12_fillsFar 175 = .ok (.getfield 146, 3) := by decide +kernel
theorem dX12_fillsFar_178 : decode cX12_fillsFar 178 = .ok (.iload 7, 2) := by decide +kernel
theorem dX12_fillsFar_180 : decode cX12_fillsFar 180 = .ok (.iaload, 1) := by decide +kernel
theorem dX12_fillsFar_181 : decode cX12_fillsFar 181 = .ok (.if_icmp .ge 20, 3) := by decide +kernel
theorem dX12_fillsFar_184 : decode cX12_fillsFar 184 = .ok (.aload_n 0, 1) := by decide +kernel
theorem dX12_fillsFar_185 : decode cX12_fillsFar 185 = .ok (.getfield 146, 3) := by decide +kernel
theorem dX12_fillsFar_188 : decode cX12_fillsFar 188 = .ok (.iload 7, 2) := by decide +kernel
theorem dX12_fillsFar_190 : decode cX12_fillsFar 190 = .ok (.aload_n 0, 1) := by decide +kernel
theorem dX12_fillsFar_191 : decode cX12_fillsFar 191 = .ok (.getfield 146, 3) := by decide +kernel
theorem dX12_fillsFar_194 : decode cX12_fillsFar 194 = .ok (.iload 8, 2) := by decide +kernel
theorem dX12_fillsFar_196 : decode cX12_fillsFar 196 = .ok (.iaload, 1) := by decide +kernel
theorem dX12_fillsFar_197 : decode cX12_fillsFar 197 = .ok (.iload 6, 2) := by decide +kernel
theorem dX12_fillsFar_199 : decode cX12_fillsFar 199 = .ok (.iadd, 1) := by decide +kernel
theorem dX12_fillsFar_200 : decode cX12_fillsFar 200 = .ok (.iastore, 1) := by decide +kernel
theorem dX12_fillsFar_201 : decode cX12_fillsFar 201 = .ok (.iinc 5 1, 3) := by decide +kernel
theorem dX12_fillsFar_204 : decode cX12_fillsFar 204 = .ok (.goto (-155), 3) := by decide +kernel
theorem dX12_fillsFar_207 : decode cX12_fillsFar 207 = .ok (.iinc 4 1, 3) := by decide +kernel
theorem dX12_fillsFar_210 : decode cX12_fillsFar 210 = .ok (.goto (-171), 3) := by decide +kernel
theorem dX12_fillsFar_213 : decode cX12_fillsFar 213 = .ok (.return_, 1) := by decide +kernel
theorem dX12_farTo_0 : decode cX12_farTo 0 = .ok (.aload_n 0, 1) := by decide +kernel
theorem dX12_farTo_1 : decode cX12_farTo 1 = .ok (.getfield 146, 3) := by decide +kernel
theorem dX12_farTo_4 : decode cX12_farTo 4 = .ok (.iload_n 1, 1) := by decide +kernel
theorem dX12_farTo_5 : decode cX12_farTo 5 = .ok (.iaload, 1) := by decide +kernel
theorem dX12_farTo_6 : decode cX12_farTo 6 = .ok (.sipush 1000, 3) := by decide +kernel
theorem dX12_farTo_9 : decode cX12_farTo 9 = .ok (.if_icmp .lt 8, 3) := by decide +kernel
theorem dX12_farTo_12 : decode cX12_farTo 12 = .ok (.bipush (-2), 2) := by decide +kernel
theorem dX12_farTo_14 : decode cX12_farTo 14 = .ok (.goto 9, 3) := by decide +kernel
theorem dX12_farTo_17 : decode cX12_farTo 17 = .ok (.aload_n 0, 1) := by decide +kernel
theorem dX12_farTo_18 : decode cX12_farTo 18 = .ok (.getfield 146, 3) := by decide +kernel
theorem dX12_farTo_21 : decode cX12_farTo 21 = .ok (.iload_n 1, 1) := by decide +kernel
theorem dX12_farTo_22 : decode cX12_farTo 22 = .ok (.iaload, 1) := by decide +kernel
theorem dX12_farTo_23 : decode cX12_farTo 23 = .ok (.ireturn, 1) := by decide +kernel
theorem dX12_steps_0 : decode cX12_steps 0 = .ok (.aload_n 0, 1) := by decide +kernel
theorem dX12_steps_1 : decode cX12_steps 1 = .ok (.iload_n 1, 1) := by decide +kernel
theorem dX12_steps_2 : decode cX12_steps 2 = .ok (.invokevirtual 392, 3) := by decide +kernel
theorem dX12_steps_5 : decode cX12_steps 5 = .ok (.ifCond .eq 11, 3) := by decide +kernel
theorem dX12_steps_8 : decode cX12_steps 8 = .ok (.aload_n 0, 1) := by decide +kernel
theorem dX12_steps_9 : decode cX12_steps 9 = .ok (.iload_n 2, 1) := by decide +kernel
theorem dX12_steps_10 : decode cX12_steps 10 = .ok (.invokevirtual 392, 3) := by decide +kernel
theorem dX12_steps_13 : decode cX12_steps 13 = .ok (.ifCond .ne 5, 3) := by decide +kernel
theorem dX12_steps_16 : decode cX12_steps 16 = .ok (.iconst (-1), 1) := by decide +kernel
theorem dX12_steps_17 : decode cX12_steps 17 = .ok (.ireturn, 1) := by decide +kernel
theorem dX12_steps_18 : decode cX12_steps 18 = .ok (.aload_n 0, 1) := by decide +kernel
theorem dX12_steps_19 : decode cX12_steps 19 = .ok (.iload_n 1, 1) := by decide +kernel
theorem dX12_steps_20 : decode cX12_steps 20 = .ok (.iconst 0, 1) := by decide +kernel
theorem dX12_steps_21 : decode cX12_steps 21 = .ok (.iconst 0, 1) := by decide +kernel
theorem dX12_steps_22 : decode cX12_steps 22 = .ok (.invokevirtual 450, 3) := by decide +kernel
theorem dX12_steps_25 : decode cX12_steps 25 = .ok (.aload_n 0, 1) := by decide +kernel
theorem dX12_steps_26 : decode cX12_steps 26 = .ok (.iload_n 2, 1) := by decide +kernel
theorem dX12_steps_27 : decode cX12_steps 27 = .ok (.invokevirtual 453, 3) := by decide +kernel
theorem dX12_steps_30 : decode cX12_steps 30 = .ok (.ireturn, 1) := by decide +kernel
theorem dX12_litNow_0 : decode cX12_litNow 0 = .ok (.aload_n 0, 1) := by decide +kernel
theorem dX12_litNow_1 : decode cX12_litNow 1 = .ok (.invokevirtual 347, 3) := by decide +kernel
theorem dX12_litNow_4 : decode cX12_litNow 4 = .ok (.aload_n 0, 1) := by decide +kernel
theorem dX12_litNow_5 : decode cX12_litNow 5 = .ok (.invokevirtual 432, 3) := by decide +kernel
theorem dX12_litNow_8 : decode cX12_litNow 8 = .ok (.ireturn, 1) := by decide +kernel
theorem dX12_dark_0 : decode cX12_dark 0 = .ok (.aload_n 0, 1) := by decide +kernel
theorem dX12_dark_1 : decode cX12_dark 1 = .ok (.iload_n 1, 1) := by decide +kernel
theorem dX12_dark_2 : decode cX12_dark 2 = .ok (.invokevirtual 392, 3) := by decide +kernel
theorem dX12_dark_5 : decode cX12_dark 5 = .ok (.ifCond .eq 11, 3) := by decide +kernel
theorem dX12_dark_8 : decode cX12_dark 8 = .ok (.aload_n 0, 1) := by decide +kernel
theorem dX12_dark_9 : decode cX12_dark 9 = .ok (.iload_n 2, 1) := by decide +kernel
theorem dX12_dark_10 : decode cX12_dark 10 = .ok (.invokevirtual 392, 3) := by decide +kernel
theorem dX12_dark_13 : decode cX12_dark 13 = .ok (.ifCond .ne 5, 3) := by decide +kernel
theorem dX12_dark_16 : decode cX12_dark 16 = .ok (.iconst (-1), 1) := by decide +kernel
theorem dX12_dark_17 : decode cX12_dark 17 = .ok (.ireturn, 1) := by decide +kernel
theorem dX12_dark_18 : decode cX12_dark 18 = .ok (.aload_n 0, 1) := by decide +kernel
theorem dX12_dark_19 : decode cX12_dark 19 = .ok (.iload_n 1, 1) := by decide +kernel
theorem dX12_dark_20 : decode cX12_dark 20 = .ok (.aload_n 0, 1) := by decide +kernel
theorem dX12_dark_21 : decode cX12_dark 21 = .ok (.invokevirtual 456, 3) := by decide +kernel
theorem dX12_dark_24 : decode cX12_dark 24 = .ok (.iconst 0, 1) := by decide +kernel
theorem dX12_dark_25 : decode cX12_dark 25 = .ok (.invokevirtual 450, 3) := by decide +kernel
theorem dX12_dark_28 : decode cX12_dark 28 = .ok (.aload_n 0, 1) := by decide +kernel
theorem dX12_dark_29 : decode cX12_dark 29 = .ok (.iload_n 2, 1) := by decide +kernel
theorem dX12_dark_30 : decode cX12_dark 30 = .ok (.invokevirtual 453, 3) := by decide +kernel
theorem dX12_dark_33 : decode cX12_dark 33 = .ok (.ireturn, 1) := by decide +kernel
theorem dX12_fillsLit_0 : decode cX12_fillsLit 0 = .ok (.aload_n 0, 1) := by decide +kernel
theorem dX12_fillsLit_1 : decode cX12_fillsLit 1 = .ok (.iload_n 1, 1) := by decide +kernel
theorem dX12_fillsLit_2 : decode cX12_fillsLit 2 = .ok (.iconst 0, 1) := by decide +kernel
theorem dX12_fillsLit_3 : decode cX12_fillsLit 3 = .ok (.iload_n 2, 1) := by decide +kernel
theorem dX12_fillsLit_4 : decode cX12_fillsLit 4 = .ok (.iconst (-1), 1) := by decide +kernel
theorem dX12_fillsLit_5 : decode cX12_fillsLit 5 = .ok (.ixor, 1) := by decide +kernel
theorem dX12_fillsLit_6 : decode cX12_fillsLit 6 = .ok (.invokevirtual 450, 3) := by decide +kernel
theorem dX12_fillsLit_9 : decode cX12_fillsLit 9 = .ok (.return_, 1) := by decide +kernel
theorem dX12_safe_0 : decode cX12_safe 0 = .ok (.aload_n 0, 1) := by decide +kernel
theorem dX12_safe_1 : decode cX12_safe 1 = .ok (.iload_n 1, 1) := by decide +kernel
theorem dX12_safe_2 : decode cX12_safe 2 = .ok (.invokevirtual 392, 3) := by decide +kernel
theorem dX12_safe_5 : decode cX12_safe 5 = .ok (.ifCond .ne 5, 3) := by decide +kernel
theorem dX12_safe_8 : decode cX12_safe 8 = .ok (.iconst (-1), 1) := by decide +kernel
theorem dX12_safe_9 : decode cX12_safe 9 = .ok (.ireturn, 1) := by decide +kernel
theorem dX12_safe_10 : decode cX12_safe 10 = .ok (.aload_n 0, 1) := by decide +kernel
theorem dX12_safe_11 : decode cX12_safe 11 = .ok (.iload_n 1, 1) := by decide +kernel
theorem dX12_safe_12 : decode cX12_safe 12 = .ok (.aload_n 0, 1) := by decide +kernel
theorem dX12_safe_13 : decode cX12_safe 13 = .ok (.invokevirtual 456, 3) := by decide +kernel
theorem dX12_safe_16 : decode cX12_safe 16 = .ok (.invokevirtual 459, 3) := by decide +kernel
theorem dX12_safe_19 : decode cX12_safe 19 = .ok (.iconst 0, 1) := by decide +kernel
theorem dX12_safe_20 : decode cX12_safe 20 = .ok (.istore_n 2, 1) := by decide +kernel
theorem dX12_safe_21 : decode cX12_safe 21 = .ok (.iconst 0, 1) := by decide +kernel
theorem dX12_safe_22 : decode cX12_safe 22 = .ok (.istore_n 3, 1) := by decide +kernel
theorem dX12_safe_23 : decode cX12_safe 23 = .ok (.iload_n 3, 1) := by decide +kernel
theorem dX12_safe_24 : decode cX12_safe 24 = .ok (.aload_n 0, 1) := by decide +kernel
theorem dX12_safe_25 : decode cX12_safe 25 = .ok (.getfield 46, 3) := by decide +kernel
theorem dX12_safe_28 : decode cX12_safe 28 = .ok (.aload_n 0, 1) := by decide +kernel
theorem dX12_safe_29 : decode cX12_safe 29 = .ok (.getfield 251, 3) := by decide +kernel
theorem dX12_safe_32 : decode cX12_safe 32 = .ok (.iaload, 1) := by decide +kernel
theorem dX12_safe_33 : decode cX12_safe 33 = .ok (.if_icmp .ge 27, 3) := by decide +kernel
theorem dX12_safe_36 : decode cX12_safe 36 = .ok (.aload_n 0, 1) := by decide +kernel
theorem dX12_safe_37 : decode cX12_safe 37 = .ok (.getfield 146, 3) := by decide +kernel
theorem dX12_safe_40 : decode cX12_safe 40 = .ok (.iload_n 3, 1) := by decide +kernel
theorem dX12_safe_41 : decode cX12_safe 41 = .ok (.iaload, 1) := by decide +kernel
theorem dX12_safe_42 : decode cX12_safe 42 = .ok (.sipush 1000, 3) := by decide +kernel
theorem dX12_safe_45 : decode cX12_safe 45 = .ok (.if_icmp .ge 9, 3) := by decide +kernel
theorem dX12_safe_48 : decode cX12_safe 48 = .ok (.iload_n 2, 1) := by decide +kernel
theorem dX12_safe_49 : decode cX12_safe 49 = .ok (.iconst 1, 1) := by decide +kernel
theorem dX12_safe_50 : decode cX12_safe 50 = .ok (.iload_n 3, 1) := by decide +kernel
theorem dX12_safe_51 : decode cX12_safe 51 = .ok (.ishl, 1) := by decide +kernel
theorem dX12_safe_52 : decode cX12_safe 52 = .ok (.ior, 1) := by decide +kernel
theorem dX12_safe_53 : decode cX12_safe 53 = .ok (.istore_n 2, 1) := by decide +kernel
theorem dX12_safe_54 : decode cX12_safe 54 = .ok (.iinc 3 1, 3) := by decide +kernel
theorem dX12_safe_57 : decode cX12_safe 57 = .ok (.goto (-34), 3) := by decide +kernel
theorem dX12_safe_60 : decode cX12_safe 60 = .ok (.iload_n 2, 1) := by decide +kernel
theorem dX12_safe_61 : decode cX12_safe 61 = .ok (.ireturn, 1) := by decide +kernel
theorem dX12_bridges_0 : decode cX12_bridges 0 = .ok (.aload_n 0, 1) := by decide +kernel
theorem dX12_bridges_1 : decode cX12_bridges 1 = .ok (.invokevirtual 456, 3) := by decide +kernel
theorem dX12_bridges_4 : decode cX12_bridges 4 = .ok (.istore_n 1, 1) := by decide +kernel
theorem dX12_bridges_5 : decode cX12_bridges 5 = .ok (.iconst 0, 1) := by decide +kernel
theorem dX12_bridges_6 : decode cX12_bridges 6 = .ok (.istore_n 2, 1) := by decide +kernel
theorem dX12_bridges_7 : decode cX12_bridges 7 = .ok (.iconst 0, 1) := by decide +kernel
theorem dX12_bridges_8 : decode cX12_bridges 8 = .ok (.istore_n 3, 1) := by decide +kernel
theorem dX12_bridges_9 : decode cX12_bridges 9 = .ok (.iload_n 3, 1) := by decide +kernel
theorem dX12_bridges_10 : decode cX12_bridges 10 = .ok (.aload_n 0, 1) := by decide +kernel
theorem dX12_bridges_11 : decode cX12_bridges 11 = .ok (.getfield 49, 3) := by decide +kernel
theorem dX12_bridges_14 : decode cX12_bridges 14 = .ok (.aload_n 0, 1) := by decide +kernel
theorem dX12_bridges_15 : decode cX12_bridges 15 = .ok (.getfield 251, 3) := by decide +kernel
theorem dX12_bridges_18 : decode cX12_bridges 18 = .ok (.iaload, 1) := by decide +kernel
theorem dX12_bridges_19 : decode cX12_bridges 19 = .ok (.if_icmp .ge 76, 3) := by decide +kernel
theorem dX12_bridges_22 : decode cX12_bridges 22 = .ok (.iload_n 1, 1) := by decide +kernel
theorem dX12_bridges_23 : decode cX12_bridges 23 = .ok (.iload_n 3, 1) := by decide +kernel
theorem dX12_bridges_24 : decode cX12_bridges 24 = .ok (.ishr, 1) := by decide +kernel
theorem dX12_bridges_25 : decode cX12_bridges 25 = .ok (.iconst 1, 1) := by decide +kernel
theorem dX12_bridges_26 : decode cX12_bridges 26 = .ok (.iand, 1) := by decide +kernel
theorem dX12_bridges_27 : decode cX12_bridges 27 = .ok (.ifCond .ne 6, 3) := by decide +kernel
theorem dX12_bridges_30 : decode cX12_bridges 30 = .ok (.goto 59, 3) := by decide +kernel
theorem dX12_bridges_33 : decode cX12_bridges 33 = .ok (.aload_n 0, 1) := by decide +kernel
theorem dX12_bridges_34 : decode cX12_bridges 34 = .ok (.aload_n 0, 1) := by decide +kernel
theorem dX12_bridges_35 : decode cX12_bridges 35 = .ok (.getfield 52, 3) := by decide +kernel
theorem dX12_bridges_38 : decode cX12_bridges 38 = .ok (.bipush 10, 2) := by decide +kernel
theorem dX12_bridges_40 : decode cX12_bridges 40 = .ok (.aload_n 0, 1) := by decide +kernel
theorem dX12_bridges_41 : decode cX12_bridges 41 = .ok (.getfield 251, 3) := by decide +kernel
theorem dX12_bridges_44 : decode cX12_bridges 44 = .ok (.imul, 1) := by decide +kernel
theorem dX12_bridges_45 : decode cX12_bridges 45 = .ok (.iload_n 3, 1) := by decide +kernel
theorem dX12_bridges_46 : decode cX12_bridges 46 = .ok (.iadd, 1) := by decide +kernel
theorem dX12_bridges_47 : decode cX12_bridges 47 = .ok (.iaload, 1) := by decide +kernel
theorem dX12_bridges_48 : decode cX12_bridges 48 = .ok (.iload_n 1, 1) := by decide +kernel
theorem dX12_bridges_49 : decode cX12_bridges 49 = .ok (.iconst 1, 1) := by decide +kernel
theorem dX12_bridges_50 : decode cX12_bridges 50 = .ok (.iload_n 3, 1) := by decide +kernel
theorem dX12_bridges_51 : decode cX12_bridges 51 = .ok (.ishl, 1) := by decide +kernel
theorem dX12_bridges_52 : decode cX12_bridges 52 = .ok (.iconst (-1), 1) := by decide +kernel
theorem dX12_bridges_53 : decode cX12_bridges 53 = .ok (.ixor, 1) := by decide +kernel
theorem dX12_bridges_54 : decode cX12_bridges 54 = .ok (.iand, 1) := by decide +kernel
theorem dX12_bridges_55 : decode cX12_bridges 55 = .ok (.invokevirtual 459, 3) := by decide +kernel
theorem dX12_bridges_58 : decode cX12_bridges 58 = .ok (.aload_n 0, 1) := by decide +kernel
theorem dX12_bridges_59 : decode cX12_bridges 59 = .ok (.getfield 146, 3) := by decide +kernel
theorem dX12_bridges_62 : decode cX12_bridges 62 = .ok (.aload_n 0, 1) := by decide +kernel
theorem dX12_bridges_63 : decode cX12_bridges 63 = .ok (.getfield 55, 3) := by decide +kernel
theorem dX12_bridges_66 : decode cX12_bridges 66 = .ok (.bipush 10, 2) := by decide +kernel
theorem dX12_bridges_68 : decode cX12_bridges 68 = .ok (.aload_n 0, 1) := by decide +kernel
theorem dX12_bridges_69 : decode cX12_bridges 69 = .ok (.getfield 251, 3) := by decide +kernel
theorem dX12_bridges_72 : decode cX12_bridges 72 = .ok (.imul, 1) := by decide +kernel
theorem dX12_bridges_73 : decode cX12_bridges 73 = .ok (.iload_n 3, 1) := by decide +kernel
theorem dX12_bridges_74 : decode cX12_bridges 74 = .ok (.iadd, 1) := by decide +kernel
theorem dX12_bridges_75 : decode cX12_bridges 75 = .ok (.iaload, 1) := by decide +kernel
theorem dX12_bridges_76 : decode cX12_bridges 76 = .ok (.iaload, 1) := by decide +kernel
theorem dX12_bridges_77 : decode cX12_bridges 77 = .ok (.sipush 1000, 3) := by decide +kernel
theorem dX12_bridges_80 : decode cX12_bridges 80 = .ok (.if_icmp .lt 9, 3) := by decide +kernel
theorem dX12_bridges_83 : decode cX12_bridges 83 = .ok (.iload_n 2, 1) := by decide +kernel
theorem dX12_bridges_84 : decode cX12_bridges 84 = .ok (.iconst 1, 1) := by decide +kernel
theorem dX12_bridges_85 : decode cX12_bridges 85 = .ok (.iload_n 3, 1) := by decide +kernel
theorem dX12_bridges_86 : decode cX12_bridges 86 = .ok (.ishl, 1) := by decide +kernel
theorem dX12_bridges_87 : decode cX12_bridges 87 = .ok (.ior, 1) := by decide +kernel
theorem dX12_bridges_88 : decode cX12_bridges 88 = .ok (.istore_n 2, 1) := by decide +kernel
theorem dX12_bridges_89 : decode cX12_bridges 89 = .ok (.iinc 3 1, 3) := by decide +kernel
theorem dX12_bridges_92 : decode cX12_bridges 92 = .ok (.goto (-83), 3) := by decide +kernel
theorem dX12_bridges_95 : decode cX12_bridges 95 = .ok (.iload_n 2, 1) := by decide +kernel
theorem dX12_bridges_96 : decode cX12_bridges 96 = .ok (.ireturn, 1) := by decide +kernel
theorem dX12_cut_0 : decode cX12_cut 0 = .ok (.aload_n 0, 1) := by decide +kernel
theorem dX12_cut_1 : decode cX12_cut 1 = .ok (.iload_n 1, 1) := by decide +kernel
theorem dX12_cut_2 : decode cX12_cut 2 = .ok (.invokevirtual 392, 3) := by decide +kernel
theorem dX12_cut_5 : decode cX12_cut 5 = .ok (.ifCond .eq 16, 3) := by decide +kernel
theorem dX12_cut_8 : decode cX12_cut 8 = .ok (.aload_n 0, 1) := by decide +kernel
theorem dX12_cut_9 : decode cX12_cut 9 = .ok (.iload_n 2, 1) := by decide +kernel
theorem dX12_cut_10 : decode cX12_cut 10 = .ok (.invokevirtual 392, 3) := by decide +kernel
theorem dX12_cut_13 : decode cX12_cut 13 = .ok (.ifCond .eq 8, 3) := by decide +kernel
theorem dX12_cut_16 : decode cX12_cut 16 = .ok (.iload_n 1, 1) := by decide +kernel
theorem dX12_cut_17 : decode cX12_cut 17 = .ok (.iload_n 2, 1) := by decide +kernel
theorem dX12_cut_18 : decode cX12_cut 18 = .ok (.if_icmp .ne 5, 3) := by decide +kernel
theorem dX12_cut_21 : decode cX12_cut 21 = .ok (.iconst (-1), 1) := by decide +kernel
theorem dX12_cut_22 : decode cX12_cut 22 = .ok (.ireturn, 1) := by decide +kernel
theorem dX12_cut_23 : decode cX12_cut 23 = .ok (.aload_n 0, 1) := by decide +kernel
theorem dX12_cut_24 : decode cX12_cut 24 = .ok (.invokevirtual 456, 3) := by decide +kernel
theorem dX12_cut_27 : decode cX12_cut 27 = .ok (.istore_n 3, 1) := by decide +kernel
theorem dX12_cut_28 : decode cX12_cut 28 = .ok (.bipush 10, 2) := by decide +kernel
theorem dX12_cut_30 : decode cX12_cut 30 = .ok (.istore 4, 2) := by decide +kernel
theorem dX12_cut_32 : decode cX12_cut 32 = .ok (.iconst 0, 1) := by decide +kernel
theorem dX12_cut_33 : decode cX12_cut 33 = .ok (.istore 5, 2) := by decide +kernel
theorem dX12_cut_35 : decode cX12_cut 35 = .ok (.iload 5, 2) := by decide +kernel
theorem dX12_cut_37 : decode cX12_cut 37 = .ok (.sipush 1024, 3) := by decide +kernel
theorem dX12_cut_40 : decode cX12_cut 40 = .ok (.if_icmp .ge 61, 3) := by decide +kernel
theorem dX12_cut_43 : decode cX12_cut 43 = .ok (.iload 5, 2) := by decide +kernel
theorem dX12_cut_45 : decode cX12_cut 45 = .ok (.iload_n 3, 1) := by decide +kernel
theorem dX12_cut_46 : decode cX12_cut 46 = .ok (.iconst (-1), 1) := by decide +kernel
theorem dX12_cut_47 : decode cX12_cut 47 = .ok (.ixor, 1) := by decide +kernel
theorem dX12_cut_48 : decode cX12_cut 48 = .ok (.iand, 1) := by decide +kernel
theorem dX12_cut_49 : decode cX12_cut 49 = .ok (.ifCond .ne 46, 3) := by decide +kernel
theorem dX12_cut_52 : decode cX12_cut 52 = .ok (.iload 5, 2) := by decide +kernel
theorem dX12_cut_54 : decode cX12_cut 54 = .ok (.invokestatic 435, 3) := by decide +kernel
theorem dX12_cut_57 : decode cX12_cut 57 = .ok (.iload 4, 2) := by decide +kernel
theorem dX12_cut_59 : decode cX12_cut 59 = .ok (.if_icmp .lt 6, 3) := by decide +kernel
theorem dX12_cut_62 : decode cX12_cut 62 = .ok (.goto 33, 3) := by decide +kernel
theorem dX12_cut_65 : decode cX12_cut 65 = .ok (.aload_n 0, 1) := by decide +kernel
theorem dX12_cut_66 : decode cX12_cut 66 = .ok (.iload_n 1, 1) := by decide +kernel
theorem dX12_cut_67 : decode cX12_cut 67 = .ok (.iload_n 3, 1) := by decide +kernel
theorem dX12_cut_68 : decode cX12_cut 68 = .ok (.iload 5, 2) := by decide +kernel
theorem dX12_cut_70 : decode cX12_cut 70 = .ok (.iconst (-1), 1) := by decide +kernel
theorem dX12_cut_71 : decode cX12_cut 71 = .ok (.ixor, 1) := by decide +kernel
theorem dX12_cut_72 : decode cX12_cut 72 = .ok (.iand, 1) := by decide +kernel
theorem dX12_cut_73 : decode cX12_cut 73 = .ok (.invokevirtual 459, 3) := by decide +kernel
theorem dX12_cut_76 : decode cX12_cut 76 = .ok (.aload_n 0, 1) := by decide +kernel
theorem dX12_cut_77 : decode cX12_cut 77 = .ok (.getfield 146, 3) := by decide +kernel
theorem dX12_cut_80 : decode cX12_cut 80 = .ok (.iload_n 2, 1) := by decide +kernel
theorem dX12_cut_81 : decode cX12_cut 81 = .ok (.iaload, 1) := by decide +kernel
theorem dX12_cut_82 : decode cX12_cut 82 = .ok (.sipush 1000, 3) := by decide +kernel
theorem dX12_cut_85 : decode cX12_cut 85 = .ok (.if_icmp .lt 10, 3) := by decide +kernel
theorem dX12_cut_88 : decode cX12_cut 88 = .ok (.iload 5, 2) := by decide +kernel
theorem dX12_cut_90 : decode cX12_cut 90 = .ok (.invokestatic 435, 3) := by decide +kernel
theorem dX12_cut_93 : decode cX12_cut 93 = .ok (.istore 4, 2) := by decide +kernel
theorem dX12_cut_95 : decode cX12_cut 95 = .ok (.iinc 5 1, 3) := by decide +kernel
theorem dX12_cut_98 : decode cX12_cut 98 = .ok (.goto (-63), 3) := by decide +kernel
theorem dX12_cut_101 : decode cX12_cut 101 = .ok (.iload 4, 2) := by decide +kernel
theorem dX12_cut_103 : decode cX12_cut 103 = .ok (.ireturn, 1) := by decide +kernel
theorem dX12_round_0 : decode cX12_round 0 = .ok (.aload_n 0, 1) := by decide +kernel
theorem dX12_round_1 : decode cX12_round 1 = .ok (.getfield 46, 3) := by decide +kernel
theorem dX12_round_4 : decode cX12_round 4 = .ok (.aload_n 0, 1) := by decide +kernel
theorem dX12_round_5 : decode cX12_round 5 = .ok (.getfield 251, 3) := by decide +kernel
theorem dX12_round_8 : decode cX12_round 8 = .ok (.iaload, 1) := by decide +kernel
theorem dX12_round_9 : decode cX12_round 9 = .ok (.ifCond .ne 6, 3) := by decide +kernel
theorem dX12_round_12 : decode cX12_round 12 = .ok (.bipush (-2), 2) := by decide +kernel
theorem dX12_round_14 : decode cX12_round 14 = .ok (.ireturn, 1) := by decide +kernel
theorem dX12_round_15 : decode cX12_round 15 = .ok (.aload_n 0, 1) := by decide +kernel
theorem dX12_round_16 : decode cX12_round 16 = .ok (.invokevirtual 347, 3) := by decide +kernel
theorem dX12_round_19 : decode cX12_round 19 = .ok (.iconst 0, 1) := by decide +kernel
theorem dX12_round_20 : decode cX12_round 20 = .ok (.istore_n 1, 1) := by decide +kernel
theorem dX12_round_21 : decode cX12_round 21 = .ok (.iconst 0, 1) := by decide +kernel
theorem dX12_round_22 : decode cX12_round 22 = .ok (.istore_n 2, 1) := by decide +kernel
theorem dX12_round_23 : decode cX12_round 23 = .ok (.iload_n 2, 1) := by decide +kernel
theorem dX12_round_24 : decode cX12_round 24 = .ok (.aload_n 0, 1) := by decide +kernel
theorem dX12_round_25 : decode cX12_round 25 = .ok (.getfield 46, 3) := by decide +kernel
theorem dX12_round_28 : decode cX12_round 28 = .ok (.aload_n 0, 1) := by decide +kernel
theorem dX12_round_29 : decode cX12_round 29 = .ok (.getfield 251, 3) := by decide +kernel
theorem dX12_round_32 : decode cX12_round 32 = .ok (.iaload, 1) := by decide +kernel
theorem dX12_round_33 : decode cX12_round 33 = .ok (.if_icmp .ge 61, 3) := by decide +kernel
theorem dX12_round_36 : decode cX12_round 36 = .ok (.aload_n 0, 1) := by decide +kernel
theorem dX12_round_37 : decode cX12_round 37 = .ok (.iload_n 2, 1) := by decide +kernel
theorem dX12_round_38 : decode cX12_round 38 = .ok (.invokevirtual 395, 3) := by decide +kernel
theorem dX12_round_41 : decode cX12_round 41 = .ok (.ifCond .eq 9, 3) := by decide +kernel
theorem dX12_round_44 : decode cX12_round 44 = .ok (.iload_n 1, 1) := by decide +kernel
theorem dX12_round_45 : decode cX12_round 45 = .ok (.iconst 1, 1) := by decide +kernel
theorem dX12_round_46 : decode cX12_round 46 = .ok (.iload_n 2, 1) := by decide +kernel
theorem dX12_round_47 : decode cX12_round 47 = .ok (.ishl, 1) := by decide +kernel
theorem dX12_round_48 : decode cX12_round 48 = .ok (.ior, 1) := by decide +kernel
theorem dX12_round_49 : decode cX12_round 49 = .ok (.istore_n 1, 1) := by decide +kernel
theorem dX12_round_50 : decode cX12_round 50 = .ok (.aload_n 0, 1) := by decide +kernel
theorem dX12_round_51 : decode cX12_round 51 = .ok (.iload_n 2, 1) := by decide +kernel
theorem dX12_round_52 : decode cX12_round 52 = .ok (.iconst 0, 1) := by decide +kernel
theorem dX12_round_53 : decode cX12_round 53 = .ok (.iconst 0, 1) := by decide +kernel
theorem dX12_round_54 : decode cX12_round 54 = .ok (.invokevirtual 450, 3) := by decide +kernel
theorem dX12_round_57 : decode cX12_round 57 = .ok (.iconst 0, 1) := by decide +kernel
theorem dX12_round_58 : decode cX12_round 58 = .ok (.istore_n 3, 1) := by decide +kernel
theorem dX12_round_59 : decode cX12_round 59 = .ok (.iload_n 3, 1) := by decide +kernel
theorem dX12_round_60 : decode cX12_round 60 = .ok (.bipush 7, 2) := by decide +kernel
theorem dX12_round_62 : decode cX12_round 62 = .ok (.if_icmp .ge 26, 3) := by decide +kernel
theorem dX12_round_65 : decode cX12_round 65 = .ok (.aload_n 0, 1) := by decide +kernel
theorem dX12_round_66 : decode cX12_round 66 = .ok (.getfield 152, 3) := by decide +kernel
theorem dX12_round_69 : decode cX12_round 69 = .ok (.bipush 7, 2) := by decide +kernel
theorem dX12_round_71 : decode cX12_round 71 = .ok (.iload_n 2, 1) := by decide +kernel
theorem dX12_round_72 : decode cX12_round 72 = .ok (.imul, 1) := by decide +kernel
theorem dX12_round_73 : decode cX12_round 73 = .ok (.iload_n 3, 1) := by decide +kernel
theorem dX12_round_74 : decode cX12_round 74 = .ok (.iadd, 1) := by decide +kernel
theorem dX12_round_75 : decode cX12_round 75 = .ok (.aload_n 0, 1) := by decide +kernel
theorem dX12_round_76 : decode cX12_round 76 = .ok (.getfield 146, 3) := by decide +kernel
theorem dX12_round_79 : decode cX12_round 79 = .ok (.iload_n 3, 1) := by decide +kernel
theorem dX12_round_80 : decode cX12_round 80 = .ok (.iaload, 1) := by decide +kernel
theorem dX12_round_81 : decode cX12_round 81 = .ok (.iastore, 1) := by decide +kernel
theorem dX12_round_82 : decode cX12_round 82 = .ok (.iinc 3 1, 3) := by decide +kernel
theorem dX12_round_85 : decode cX12_round 85 = .ok (.goto (-26), 3) := by decide +kernel
theorem dX12_round_88 : decode cX12_round 88 = .ok (.iinc 2 1, 3) := by decide +kernel
theorem dX12_round_91 : decode cX12_round 91 = .ok (.goto (-68), 3) := by decide +kernel
theorem dX12_round_94 : decode cX12_round 94 = .ok (.aload_n 0, 1) := by decide +kernel
theorem dX12_round_95 : decode cX12_round 95 = .ok (.getfield 128, 3) := by decide +kernel
theorem dX12_round_98 : decode cX12_round 98 = .ok (.bipush 46, 2) := by decide +kernel
theorem dX12_round_100 : decode cX12_round 100 = .ok (.iaload, 1) := by decide +kernel
theorem dX12_round_101 : decode cX12_round 101 = .ok (.istore_n 2, 1) := by decide +kernel
theorem dX12_round_102 : decode cX12_round 102 = .ok (.iconst 0, 1) := by decide +kernel
theorem dX12_round_103 : decode cX12_round 103 = .ok (.istore_n 3, 1) := by decide +kernel
theorem dX12_round_104 : decode cX12_round 104 = .ok (.iload_n 3, 1) := by decide +kernel
theorem dX12_round_105 : decode cX12_round 105 = .ok (.sipush 896, 3) := by decide +kernel
theorem dX12_round_108 : decode cX12_round 108 = .ok (.if_icmp .ge 18, 3) := by decide +kernel
theorem dX12_round_111 : decode cX12_round 111 = .ok (.aload_n 0, 1) := by decide +kernel
theorem dX12_round_112 : decode cX12_round 112 = .ok (.getfield 149, 3) := by decide +kernel
theorem dX12_round_115 : decode cX12_round 115 = .ok (.iload_n 3, 1) := by decide +kernel
theorem dX12_round_116 : decode cX12_round 116 = .ok (.sipush 1000, 3) := by decide +kernel
theorem dX12_round_119 : decode cX12_round 119 = .ok (.iastore, 1) := by decide +kernel
theorem dX12_round_120 : decode cX12_round 120 = .ok (.iinc 3 1, 3) := by decide +kernel
theorem dX12_round_123 : decode cX12_round 123 = .ok (.goto (-19), 3) := by decide +kernel
theorem dX12_round_126 : decode cX12_round 126 = .ok (.aload_n 0, 1) := by decide +kernel
theorem dX12_round_127 : decode cX12_round 127 = .ok (.getfield 149, 3) := by decide +kernel
theorem dX12_round_130 : decode cX12_round 130 = .ok (.bipush 7, 2) := by decide +kernel
theorem dX12_round_132 : decode cX12_round 132 = .ok (.iload_n 1, 1) := by decide +kernel
theorem dX12_round_133 : decode cX12_round 133 = .ok (.iconst 1, 1) := by decide +kernel
theorem dX12_round_134 : decode cX12_round 134 = .ok (.iload_n 2, 1) := by decide +kernel
theorem dX12_round_135 : decode cX12_round 135 = .ok (.ishl, 1) := by decide +kernel
theorem dX12_round_136 : decode cX12_round 136 = .ok (.iand, 1) := by decide +kernel
theorem dX12_round_137 : decode cX12_round 137 = .ok (.imul, 1) := by decide +kernel
theorem dX12_round_138 : decode cX12_round 138 = .ok (.iload_n 2, 1) := by decide +kernel
theorem dX12_round_139 : decode cX12_round 139 = .ok (.iadd, 1) := by decide +kernel
theorem dX12_round_140 : decode cX12_round 140 = .ok (.iconst 0, 1) := by decide +kernel
theorem dX12_round_141 : decode cX12_round 141 = .ok (.iastore, 1) := by decide +kernel
theorem dX12_round_142 : decode cX12_round 142 = .ok (.sipush 1000, 3) := by decide +kernel
theorem dX12_round_145 : decode cX12_round 145 = .ok (.istore_n 3, 1) := by decide +kernel
theorem dX12_round_146 : decode cX12_round 146 = .ok (.iconst 0, 1) := by decide +kernel
theorem dX12_round_147 : decode cX12_round 147 = .ok (.istore 4, 2) := by decide +kernel
theorem dX12_round_149 : decode cX12_round 149 = .ok (.iload 4, 2) := by decide +kernel
theorem dX12_round_151 : decode cX12_round 151 = .ok (.sipush 896, 3) := by decide +kernel
theorem dX12_round_154 : decode cX12_round 154 = .ok (.if_icmp .ge 158, 3) := by decide +kernel
theorem dX12_round_157 : decode cX12_round 157 = .ok (.aload_n 0, 1) := by decide +kernel
theorem dX12_round_158 : decode cX12_round 158 = .ok (.getfield 149, 3) := by decide +kernel
theorem dX12_round_161 : decode cX12_round 161 = .ok (.iload 4, 2) := by decide +kernel
theorem dX12_round_163 : decode cX12_round 163 = .ok (.iaload, 1) := by decide +kernel
theorem dX12_round_164 : decode cX12_round 164 = .ok (.sipush 1000, 3) := by decide +kernel
theorem dX12_round_167 : decode cX12_round 167 = .ok (.if_icmp .lt 6, 3) := by decide +kernel
theorem dX12_round_170 : decode cX12_round 170 = .ok (.goto 136, 3) := by decide +kernel
theorem dX12_round_173 : decode cX12_round 173 = .ok (.iload 4, 2) := by decide +kernel
theorem dX12_round_175 : decode cX12_round 175 = .ok (.bipush 7, 2) := by decide +kernel
theorem dX12_round_177 : decode cX12_round 177 = .ok (.idiv, 1) := by decide +kernel
theorem dX12_round_178 : decode cX12_round 178 = .ok (.iload_n 1, 1) := by decide +kernel
theorem dX12_round_179 : decode cX12_round 179 = .ok (.if_icmp .ne 22, 3) := by decide +kernel
theorem dX12_round_182 : decode cX12_round 182 = .ok (.aload_n 0, 1) := by decide +kernel
theorem dX12_round_183 : decode cX12_round 183 = .ok (.getfield 149, 3) := by decide +kernel
theorem dX12_round_186 : decode cX12_round 186 = .ok (.iload 4, 2) := by decide +kernel
theorem dX12_round_188 : decode cX12_round 188 = .ok (.iaload, 1) := by decide +kernel
theorem dX12_round_189 : decode cX12_round 189 = .ok (.iload_n 3, 1) := by decide +kernel
theorem dX12_round_190 : decode cX12_round 190 = .ok (.if_icmp .ge 11, 3) := by decide +kernel
theorem dX12_round_193 : decode cX12_round 193 = .ok (.aload_n 0, 1) := by decide +kernel
theorem dX12_round_194 : decode cX12_round 194 = .ok (.getfield 149, 3) := by decide +kernel
theorem dX12_round_197 : decode cX12_round 197 = .ok (.iload 4, 2) := by decide +kernel
theorem dX12_round_199 : decode cX12_round 199 = .ok (.iaload, 1) := by decide +kernel
theorem dX12_round_200 : decode cX12_round 200 = .ok (.istore_n 3, 1) := by decide +kernel
theorem dX12_round_201 : decode cX12_round 201 = .ok (.iconst 0, 1) := by decide +kernel
theorem dX12_round_202 : decode cX12_round 202 = .ok (.istore 5, 2) := by decide +kernel
theorem dX12_round_204 : decode cX12_round 204 = .ok (.iload 5, 2) := by decide +kernel
theorem dX12_round_206 : decode cX12_round 206 = .ok (.aload_n 0, 1) := by decide +kernel
theorem dX12_round_207 : decode cX12_round 207 = .ok (.getfield 46, 3) := by decide +kernel
theorem dX12_round_210 : decode cX12_round 210 = .ok (.aload_n 0, 1) := by decide +kernel
theorem dX12_round_211 : decode cX12_round 211 = .ok (.getfield 251, 3) := by decide +kernel
theorem dX12_round_214 : decode cX12_round 214 = .ok (.iaload, 1) := by decide +kernel
theorem dX12_round_215 : decode cX12_round 215 = .ok (.if_icmp .ge 91, 3) := by decide +kernel
theorem dX12_round_218 : decode cX12_round 218 = .ok (.bipush 7, 2) := by decide +kernel
theorem dX12_round_220 : decode cX12_round 220 = .ok (.iload 4, 2) := by decide +kernel
theorem dX12_round_222 : decode cX12_round 222 = .ok (.bipush 7, 2) := by decide +kernel
theorem dX12_round_224 : decode cX12_round 224 = .ok (.idiv, 1) := by decide +kernel
theorem dX12_round_225 : decode cX12_round 225 = .ok (.iconst 1, 1) := by decide +kernel
theorem dX12_round_226 : decode cX12_round 226 = .ok (.iload 5, 2) := by decide +kernel
theorem dX12_round_228 : decode cX12_round 228 = .ok (.ishl, 1) := by decide +kernel
theorem dX12_round_229 : decode cX12_round 229 = .ok (.ior, 1) := by decide +kernel
theorem dX12_round_230 : decode cX12_round 230 = .ok (.imul, 1) := by decide +kernel
theorem dX12_round_231 : decode cX12_round 231 = .ok (.iload 5, 2) := by decide +kernel
theorem dX12_round_233 : decode cX12_round 233 = .ok (.iadd, 1) := by decide +kernel
theorem dX12_round_234 : decode cX12_round 234 = .ok (.istore 6, 2) := by decide +kernel
theorem dX12_round_236 : decode cX12_round 236 = .ok (.aload_n 0, 1) := by decide +kernel
theorem dX12_round_237 : decode cX12_round 237 = .ok (.getfield 149, 3) := by decide +kernel
theorem dX12_round_240 : decode cX12_round 240 = .ok (.iload 4, 2) := by decide +kernel
theorem dX12_round_242 : decode cX12_round 242 = .ok (.iaload, 1) := by decide +kernel
theorem dX12_round_243 : decode cX12_round 243 = .ok (.aload_n 0, 1) := by decide +kernel
theorem dX12_round_244 : decode cX12_round 244 = .ok (.getfield 152, 3) := by decide +kernel
theorem dX12_round_247 : decode cX12_round 247 = .ok (.bipush 7, 2) := by decide +kernel
theorem dX12_round_249 : decode cX12_round 249 = .ok (.iload 4, 2) := by decide +kernel
theorem dX12_round_251 : decode cX12_round 251 = .ok (.bipush 7, 2) := by decide +kernel
theorem dX12_round_253 : decode cX12_round 253 = .ok (.irem, 1) := by decide +kernel
theorem dX12_round_254 : decode cX12_round 254 = .ok (.imul, 1) := by decide +kernel
theorem dX12_round_255 : decode cX12_round 255 = .ok (.iload 5, 2) := by decide +kernel
theorem dX12_round_257 : decode cX12_round 257 = .ok (.iadd, 1) := by decide +kernel
theorem dX12_round_258 : decode cX12_round 258 = .ok (.iaload, 1) := by decide +kernel
theorem dX12_round_259 : decode cX12_round 259 = .ok (.iadd, 1) := by decide +kernel
theorem dX12_round_260 : decode cX12_round 260 = .ok (.istore 7, 2) := by decide +kernel
theorem dX12_round_262 : decode cX12_round 262 = .ok (.iload_n 1, 1) := by decide +kernel
theorem dX12_round_263 : decode cX12_round 263 = .ok (.iload 4, 2) := by decide +kernel
theorem dX12_round_265 : decode cX12_round 265 = .ok (.bipush 7, 2) := by decide +kernel
theorem dX12_round_267 : decode cX12_round 267 = .ok (.idiv, 1) := by decide +kernel
theorem dX12_round_268 : decode cX12_round 268 = .ok (.iconst (-1), 1) := by decide +kernel
theorem dX12_round_269 : decode cX12_round 269 = .ok (.ixor, 1) := by decide +kernel
theorem dX12_round_270 : decode cX12_round 270 = .ok (.iand, 1) := by decide +kernel
theorem dX12_round_271 : decode cX12_round 271 = .ok (.iconst 1, 1) := by decide +kernel
theorem dX12_round_272 : decode cX12_round 272 = .ok (.iload 5, 2) := by decide +kernel
theorem dX12_round_274 : decode cX12_round 274 = .ok (.ishl, 1) := by decide +kernel
theorem dX12_round_275 : decode cX12_round 275 = .ok (.iand, 1) := by decide +kernel
theorem dX12_round_276 : decode cX12_round 276 = .ok (.ifCond .eq 24, 3) := by decide +kernel
theorem dX12_round_279 : decode cX12_round 279 = .ok (.iload 7, 2) := by decide +kernel
theorem dX12_round_281 : decode cX12_round 281 = .ok (.aload_n 0, 1) := by decide +kernel
theorem dX12_round_282 : decode cX12_round 282 = .ok (.getfield 149, 3) := by decide +kernel
theorem dX12_round_285 : decode cX12_round 285 = .ok (.iload 6, 2) := by decide +kernel
theorem dX12_round_287 : decode cX12_round 287 = .ok (.iaload, 1) := by decide +kernel
theorem dX12_round_288 : decode cX12_round 288 = .ok (.if_icmp .ge 12, 3) := by decide +kernel
theorem dX12_round_291 : decode cX12_round 291 = .ok (.aload_n 0, 1) := by decide +kernel
theorem dX12_round_292 : decode cX12_round 292 = .ok (.getfield 149, 3) := by decide +kernel
theorem dX12_round_295 : decode cX12_round 295 = .ok (.iload 6, 2) := by decide +kernel
theorem dX12_round_297 : decode cX12_round 297 = .ok (.iload 7, 2) := by decide +kernel
theorem dX12_round_299 : decode cX12_round 299 = .ok (.iastore, 1) := by decide +kernel
theorem dX12_round_300 : decode cX12_round 300 = .ok (.iinc 5 1, 3) := by decide +kernel
theorem dX12_round_303 : decode cX12_round 303 = .ok (.goto (-99), 3) := by decide +kernel
theorem dX12_round_306 : decode cX12_round 306 = .ok (.iinc 4 1, 3) := by decide +kernel
theorem dX12_round_309 : decode cX12_round 309 = .ok (.goto (-160), 3) := by decide +kernel
theorem dX12_round_312 : decode cX12_round 312 = .ok (.iload_n 3, 1) := by decide +kernel
theorem dX12_round_313 : decode cX12_round 313 = .ok (.sipush 1000, 3) := by decide +kernel
theorem dX12_round_316 : decode cX12_round 316 = .ok (.if_icmp .lt 8, 3) := by decide +kernel
theorem dX12_round_319 : decode cX12_round 319 = .ok (.bipush (-2), 2) := by decide +kernel
theorem dX12_round_321 : decode cX12_round 321 = .ok (.goto 4, 3) := by decide +kernel
theorem dX12_round_324 : decode cX12_round 324 = .ok (.iload_n 3, 1) := by decide +kernel
theorem dX12_round_325 : decode cX12_round 325 = .ok (.ireturn, 1) := by decide +kernel
theorem dX12_brightest_0 : decode cX12_brightest 0 = .ok (.iload_n 1, 1) := by decide +kernel
theorem dX12_brightest_1 : decode cX12_brightest 1 = .ok (.iconst 0, 1) := by decide +kernel
theorem dX12_brightest_2 : decode cX12_brightest 2 = .ok (.iconst 1, 1) := by decide +kernel
theorem dX12_brightest_3 : decode cX12_brightest 3 = .ok (.invokestatic 334, 3) := by decide +kernel
theorem dX12_brightest_6 : decode cX12_brightest 6 = .ok (.ifCond .ne 5, 3) := by decide +kernel
theorem dX12_brightest_9 : decode cX12_brightest 9 = .ok (.iconst (-1), 1) := by decide +kernel
theorem dX12_brightest_10 : decode cX12_brightest 10 = .ok (.ireturn, 1) := by decide +kernel
theorem dX12_brightest_11 : decode cX12_brightest 11 = .ok (.aload_n 0, 1) := by decide +kernel
theorem dX12_brightest_12 : decode cX12_brightest 12 = .ok (.invokevirtual 347, 3) := by decide +kernel
theorem dX12_brightest_15 : decode cX12_brightest 15 = .ok (.bipush (-2), 2) := by decide +kernel
theorem dX12_brightest_17 : decode cX12_brightest 17 = .ok (.istore_n 2, 1) := by decide +kernel
theorem dX12_brightest_18 : decode cX12_brightest 18 = .ok (.iconst 0, 1) := by decide +kernel
theorem dX12_brightest_19 : decode cX12_brightest 19 = .ok (.istore_n 3, 1) := by decide +kernel
theorem dX12_brightest_20 : decode cX12_brightest 20 = .ok (.iload_n 3, 1) := by decide +kernel
theorem dX12_brightest_21 : decode cX12_brightest 21 = .ok (.aload_n 0, 1) := by decide +kernel
theorem dX12_brightest_22 : decode cX12_brightest 22 = .ok (.getfield 46, 3) := by decide +kernel
theorem dX12_brightest_25 : decode cX12_brightest 25 = .ok (.aload_n 0, 1) := by decide +kernel
theorem dX12_brightest_26 : decode cX12_brightest 26 = .ok (.getfield 251, 3) := by decide +kernel
theorem dX12_brightest_29 : decode cX12_brightest 29 = .ok (.iaload, 1) := by decide +kernel
theorem dX12_brightest_30 : decode cX12_brightest 30 = .ok (.if_icmp .ge 28, 3) := by decide +kernel
theorem dX12_brightest_33 : decode cX12_brightest 33 = .ok (.iload_n 2, 1) := by decide +kernel
theorem dX12_brightest_34 : decode cX12_brightest 34 = .ok (.ifCond .lt 16, 3) := by decide +kernel
theorem dX12_brightest_37 : decode cX12_brightest 37 = .ok (.aload_n 0, 1) := by decide +kernel
theorem dX12_brightest_38 : decode cX12_brightest 38 = .ok (.iload_n 3, 1) := by decide +kernel
theorem dX12_brightest_39 : decode cX12_brightest 39 = .ok (.invokevirtual 389, 3) := by decide +kernel
theorem dX12_brightest_42 : decode cX12_brightest 42 = .ok (.aload_n 0, 1) := by decide +kernel
theorem dX12_brightest_43 : decode cX12_brightest 43 = .ok (.iload_n 2, 1) := by decide +kernel
theorem dX12_brightest_44 : decode cX12_brightest 44 = .ok (.invokevirtual 389, 3) := by decide +kernel
theorem dX12_brightest_47 : decode cX12_brightest 47 = .ok (.if_icmp .le 5, 3) := by decide +kernel
theorem dX12_brightest_50 : decode cX12_brightest 50 = .ok (.iload_n 3, 1) := by decide +kernel
theorem dX12_brightest_51 : decode cX12_brightest 51 = .ok (.istore_n 2, 1) := by decide +kernel
theorem dX12_brightest_52 : decode cX12_brightest 52 = .ok (.iinc 3 1, 3) := by decide +kernel
theorem dX12_brightest_55 : decode cX12_brightest 55 = .ok (.goto (-35), 3) := by decide +kernel
theorem dX12_brightest_58 : decode cX12_brightest 58 = .ok (.iload_n 2, 1) := by decide +kernel
theorem dX12_brightest_59 : decode cX12_brightest 59 = .ok (.ifCond .lt 7, 3) := by decide +kernel
theorem dX12_brightest_62 : decode cX12_brightest 62 = .ok (.iload_n 1, 1) := by decide +kernel
theorem dX12_brightest_63 : decode cX12_brightest 63 = .ok (.ifCond .ne 7, 3) := by decide +kernel
theorem dX12_brightest_66 : decode cX12_brightest 66 = .ok (.iload_n 2, 1) := by decide +kernel
theorem dX12_brightest_67 : decode cX12_brightest 67 = .ok (.goto 8, 3) := by decide +kernel
theorem dX12_brightest_70 : decode cX12_brightest 70 = .ok (.aload_n 0, 1) := by decide +kernel
theorem dX12_brightest_71 : decode cX12_brightest 71 = .ok (.iload_n 2, 1) := by decide +kernel
theorem dX12_brightest_72 : decode cX12_brightest 72 = .ok (.invokevirtual 389, 3) := by decide +kernel
theorem dX12_brightest_75 : decode cX12_brightest 75 = .ok (.ireturn, 1) := by decide +kernel
theorem dX12_gather_0 : decode cX12_gather 0 = .ok (.iload_n 1, 1) := by decide +kernel
theorem dX12_gather_1 : decode cX12_gather 1 = .ok (.iconst 0, 1) := by decide +kernel
theorem dX12_gather_2 : decode cX12_gather 2 = .ok (.iconst 1, 1) := by decide +kernel
theorem dX12_gather_3 : decode cX12_gather 3 = .ok (.invokestatic 334, 3) := by decide +kernel
theorem dX12_gather_6 : decode cX12_gather 6 = .ok (.ifCond .ne 5, 3) := by decide +kernel
theorem dX12_gather_9 : decode cX12_gather 9 = .ok (.iconst (-1), 1) := by decide +kernel
theorem dX12_gather_10 : decode cX12_gather 10 = .ok (.ireturn, 1) := by decide +kernel
theorem dX12_gather_11 : decode cX12_gather 11 = .ok (.aload_n 0, 1) := by decide +kernel
theorem dX12_gather_12 : decode cX12_gather 12 = .ok (.invokevirtual 347, 3) := by decide +kernel
theorem dX12_gather_15 : decode cX12_gather 15 = .ok (.bipush (-2), 2) := by decide +kernel
theorem dX12_gather_17 : decode cX12_gather 17 = .ok (.istore_n 2, 1) := by decide +kernel
theorem dX12_gather_18 : decode cX12_gather 18 = .ok (.sipush 1000, 3) := by decide +kernel
theorem dX12_gather_21 : decode cX12_gather 21 = .ok (.istore_n 3, 1) := by decide +kernel
theorem dX12_gather_22 : decode cX12_gather 22 = .ok (.iconst 0, 1) := by decide +kernel
theorem dX12_gather_23 : decode cX12_gather 23 = .ok (.istore 4, 2) := by decide +kernel
theorem dX12_gather_25 : decode cX12_gather 25 = .ok (.iload 4, 2) := by decide +kernel
theorem dX12_gather_27 : decode cX12_gather 27 = .ok (.aload_n 0, 1) := by decide +kernel
theorem dX12_gather_28 : decode cX12_gather 28 = .ok (.getfield 46, 3) := by decide +kernel
theorem dX12_gather_31 : decode cX12_gather 31 = .ok (.aload_n 0, 1) := by decide +kernel
theorem dX12_gather_32 : decode cX12_gather 32 = .ok (.getfield 251, 3) := by decide +kernel
theorem dX12_gather_35 : decode cX12_gather 35 = .ok (.iaload, 1) := by decide +kernel
theorem dX12_gather_36 : decode cX12_gather 36 = .ok (.if_icmp .ge 88, 3) := by decide +kernel
theorem dX12_gather_39 : decode cX12_gather 39 = .ok (.aload_n 0, 1) := by decide +kernel
theorem dX12_gather_40 : decode cX12_gather 40 = .ok (.iload 4, 2) := by decide +kernel
theorem dX12_gather_42 : decode cX12_gather 42 = .ok (.iconst 0, 1) := by decide +kernel
theorem dX12_gather_43 : decode cX12_gather 43 = .ok (.iconst 0, 1) := by decide +kernel
theorem dX12_gather_44 : decode cX12_gather 44 = .ok (.invokevirtual 450, 3) := by decide +kernel
theorem dX12_gather_47 : decode cX12_gather 47 = .ok (.iconst 0, 1) := by decide +kernel
theorem dX12_gather_48 : decode cX12_gather 48 = .ok (.istore 5, 2) := by decide +kernel
theorem dX12_gather_50 : decode cX12_gather 50 = .ok (.iconst 0, 1) := by decide +kernel
theorem dX12_gather_51 : decode cX12_gather 51 = .ok (.istore 6, 2) := by decide +kernel
theorem dX12_gather_53 : decode cX12_gather 53 = .ok (.iload 6, 2) := by decide +kernel
theorem dX12_gather_55 : decode cX12_gather 55 = .ok (.aload_n 0, 1) := by decide +kernel
theorem dX12_gather_56 : decode cX12_gather 56 = .ok (.getfield 61, 3) := by decide +kernel
theorem dX12_gather_59 : decode cX12_gather 59 = .ok (.aload_n 0, 1) := by decide +kernel
theorem dX12_gather_60 : decode cX12_gather 60 = .ok (.getfield 251, 3) := by decide +kernel
theorem dX12_gather_63 : decode cX12_gather 63 = .ok (.iaload, 1) := by decide +kernel
theorem dX12_gather_64 : decode cX12_gather 64 = .ok (.if_icmp .ge 39, 3) := by decide +kernel
theorem dX12_gather_67 : decode cX12_gather 67 = .ok (.aload_n 0, 1) := by decide +kernel
theorem dX12_gather_68 : decode cX12_gather 68 = .ok (.getfield 128, 3) := by decide +kernel
theorem dX12_gather_71 : decode cX12_gather 71 = .ok (.bipush 12, 2) := by decide +kernel
theorem dX12_gather_73 : decode cX12_gather 73 = .ok (.iload 6, 2) := by decide +kernel
theorem dX12_gather_75 : decode cX12_gather 75 = .ok (.iadd, 1) := by decide +kernel
theorem dX12_gather_76 : decode cX12_gather 76 = .ok (.iaload, 1) := by decide +kernel
theorem dX12_gather_77 : decode cX12_gather 77 = .ok (.ifCond .ne 20, 3) := by decide +kernel
theorem dX12_gather_80 : decode cX12_gather 80 = .ok (.iload 5, 2) := by decide +kernel
theorem dX12_gather_82 : decode cX12_gather 82 = .ok (.aload_n 0, 1) := by decide +kernel
theorem dX12_gather_83 : decode cX12_gather 83 = .ok (.getfield 146, 3) := by decide +kernel
theorem dX12_gather_86 : decode cX12_gather 86 = .ok (.aload_n 0, 1) := by decide +kernel
theorem dX12_gather_87 : decode cX12_gather 87 = .ok (.getfield 128, 3) := by decide +kernel
theorem dX12_gather_90 : decode cX12_gather 90 = .ok (.iload 6, 2) := by decide +kernel
theorem dX12_gather_92 : decode cX12_gather 92 = .ok (.iaload, 1) := by decide +kernel
theorem dX12_gather_93 : decode cX12_gather 93 = .ok (.iaload, 1) := by decide +kernel
theorem dX12_gather_94 : decode cX12_gather 94 = .ok (.iadd, 1) := by decide +kernel
theorem dX12_gather_95 : decode cX12_gather 95 = .ok (.istore 5, 2) := by decide +kernel
theorem dX12_gather_97 : decode cX12_gather 97 = .ok (.iinc 6 1, 3) := by decide +kernel
theorem dX12_gather_100 : decode cX12_gather 100 = .ok (.goto (-47), 3) := by decide +kernel
theorem dX12_gather_103 : decode cX12_gather 103 = .ok (.iload 5, 2) := by decide +kernel
theorem dX12_gather_105 : decode cX12_gather 105 = .ok (.iload_n 3, 1) := by decide +kernel
theorem dX12_gather_106 : decode cX12_gather 106 = .ok (.if_icmp .lt 6, 3) := by decide +kernel
theorem dX12_gather_109 : decode cX12_gather 109 = .ok (.goto 9, 3) := by decide +kernel
theorem dX12_gather_112 : decode cX12_gather 112 = .ok (.iload 4, 2) := by decide +kernel
theorem dX12_gather_114 : decode cX12_gather 114 = .ok (.istore_n 2, 1) := by decide +kernel
theorem dX12_gather_115 : decode cX12_gather 115 = .ok (.iload 5, 2) := by decide +kernel
theorem dX12_gather_117 : decode cX12_gather 117 = .ok (.istore_n 3, 1) := by decide +kernel
theorem dX12_gather_118 : decode cX12_gather 118 = .ok (.iinc 4 1, 3) := by decide +kernel
theorem dX12_gather_121 : decode cX12_gather 121 = .ok (.goto (-96), 3) := by decide +kernel
theorem dX12_gather_124 : decode cX12_gather 124 = .ok (.iload_n 2, 1) := by decide +kernel
theorem dX12_gather_125 : decode cX12_gather 125 = .ok (.ifCond .lt 7, 3) := by decide +kernel
theorem dX12_gather_128 : decode cX12_gather 128 = .ok (.iload_n 1, 1) := by decide +kernel
theorem dX12_gather_129 : decode cX12_gather 129 = .ok (.ifCond .ne 7, 3) := by decide +kernel
theorem dX12_gather_132 : decode cX12_gather 132 = .ok (.iload_n 2, 1) := by decide +kernel
theorem dX12_gather_133 : decode cX12_gather 133 = .ok (.goto 4, 3) := by decide +kernel
theorem dX12_gather_136 : decode cX12_gather 136 = .ok (.iload_n 3, 1) := by decide +kernel
theorem dX12_gather_137 : decode cX12_gather 137 = .ok (.ireturn, 1) := by decide +kernel
theorem dX12_moves_0 : decode cX12_moves 0 = .ok (.aload_n 0, 1) := by decide +kernel
theorem dX12_moves_1 : decode cX12_moves 1 = .ok (.iload_n 1, 1) := by decide +kernel
theorem dX12_moves_2 : decode cX12_moves 2 = .ok (.invokevirtual 405, 3) := by decide +kernel
theorem dX12_moves_5 : decode cX12_moves 5 = .ok (.ifCond .eq 12, 3) := by decide +kernel
theorem dX12_moves_8 : decode cX12_moves 8 = .ok (.iload_n 2, 1) := by decide +kernel
theorem dX12_moves_9 : decode cX12_moves 9 = .ok (.iconst 0, 1) := by decide +kernel
theorem dX12_moves_10 : decode cX12_moves 10 = .ok (.iconst 1, 1) := by decide +kernel
theorem dX12_moves_11 : decode cX12_moves 11 = .ok (.invokestatic 334, 3) := by decide +kernel
theorem dX12_moves_14 : decode cX12_moves 14 = .ok (.ifCond .ne 5, 3) := by decide +kernel
theorem dX12_moves_17 : decode cX12_moves 17 = .ok (.iconst (-1), 1) := by decide +kernel
theorem dX12_moves_18 : decode cX12_moves 18 = .ok (.ireturn, 1) := by decide +kernel
theorem dX12_moves_19 : decode cX12_moves 19 = .ok (.aload_n 0, 1) := by decide +kernel
theorem dX12_moves_20 : decode cX12_moves 20 = .ok (.invokevirtual 347, 3) := by decide +kernel
theorem dX12_moves_23 : decode cX12_moves 23 = .ok (.aload_n 0, 1) := by decide +kernel
theorem dX12_moves_24 : decode cX12_moves 24 = .ok (.iload_n 1, 1) := by decide +kernel
theorem dX12_moves_25 : decode cX12_moves 25 = .ok (.invokevirtual 408, 3) := by decide +kernel
theorem dX12_moves_28 : decode cX12_moves 28 = .ok (.istore_n 3, 1) := by decide +kernel
theorem dX12_moves_29 : decode cX12_moves 29 = .ok (.iconst 0, 1) := by decide +kernel
theorem dX12_moves_30 : decode cX12_moves 30 = .ok (.istore 4, 2) := by decide +kernel
theorem dX12_moves_32 : decode cX12_moves 32 = .ok (.iconst 0, 1) := by decide +kernel
theorem dX12_moves_33 : decode cX12_moves 33 = .ok (.istore 5, 2) := by decide +kernel
theorem dX12_moves_35 : decode cX12_moves 35 = .ok (.iload 5, 2) := by decide +kernel
theorem dX12_moves_37 : decode cX12_moves 37 = .ok (.aload_n 0, 1) := by decide +kernel
theorem dX12_moves_38 : decode cX12_moves 38 = .ok (.getfield 61, 3) := by decide +kernel
theorem dX12_moves_41 : decode cX12_moves 41 = .ok (.aload_n 0, 1) := by decide +kernel
theorem dX12_moves_42 : decode cX12_moves 42 = .ok (.getfield 251, 3) := by decide +kernel
theorem dX12_moves_45 : decode cX12_moves 45 = .ok (.iaload, 1) := by decide +kernel
theorem dX12_moves_46 : decode cX12_moves 46 = .ok (.if_icmp .ge 46, 3) := by decide +kernel
theorem dX12_moves_49 : decode cX12_moves 49 = .ok (.aload_n 0, 1) := by decide +kernel
theorem dX12_moves_50 : decode cX12_moves 50 = .ok (.getfield 128, 3) := by decide +kernel
theorem dX12_moves_53 : decode cX12_moves 53 = .ok (.bipush 12, 2) := by decide +kernel
theorem dX12_moves_55 : decode cX12_moves 55 = .ok (.iload 5, 2) := by decide +kernel
theorem dX12_moves_57 : decode cX12_moves 57 = .ok (.iadd, 1) := by decide +kernel
theorem dX12_moves_58 : decode cX12_moves 58 = .ok (.iaload, 1) := by decide +kernel
theorem dX12_moves_59 : decode cX12_moves 59 = .ok (.ifCond .ne 27, 3) := by decide +kernel
theorem dX12_moves_62 : decode cX12_moves 62 = .ok (.aload_n 0, 1) := by decide +kernel
theorem dX12_moves_63 : decode cX12_moves 63 = .ok (.iload_n 1, 1) := by decide +kernel
theorem dX12_moves_64 : decode cX12_moves 64 = .ok (.aload_n 0, 1) := by decide +kernel
theorem dX12_moves_65 : decode cX12_moves 65 = .ok (.getfield 128, 3) := by decide +kernel
theorem dX12_moves_68 : decode cX12_moves 68 = .ok (.iload 5, 2) := by decide +kernel
theorem dX12_moves_70 : decode cX12_moves 70 = .ok (.iaload, 1) := by decide +kernel
theorem dX12_moves_71 : decode cX12_moves 71 = .ok (.invokevirtual 401, 3) := by decide +kernel
theorem dX12_moves_74 : decode cX12_moves 74 = .ok (.ifCond .ne 12, 3) := by decide +kernel
theorem dX12_moves_77 : decode cX12_moves 77 = .ok (.iload 4, 2) := by decide +kernel
theorem dX12_moves_79 : decode cX12_moves 79 = .ok (.iconst 1, 1) := by decide +kernel
theorem dX12_moves_80 : decode cX12_moves 80 = .ok (.iload 5, 2) := by decide +kernel
theorem dX12_moves_82 : decode cX12_moves 82 = .ok (.ishl, 1) := by decide +kernel
theorem dX12_moves_83 : decode cX12_moves 83 = .ok (.ior, 1) := by decide +kernel
theorem dX12_moves_84 : decode cX12_moves 84 = .ok (.istore 4, 2) := by decide +kernel
theorem dX12_moves_86 : decode cX12_moves 86 = .ok (.iinc 5 1, 3) := by decide +kernel
theorem dX12_moves_89 : decode cX12_moves 89 = .ok (.goto (-54), 3) := by decide +kernel
theorem dX12_moves_92 : decode cX12_moves 92 = .ok (.bipush (-2), 2) := by decide +kernel
theorem dX12_moves_94 : decode cX12_moves 94 = .ok (.istore 5, 2) := by decide +kernel
theorem dX12_moves_96 : decode cX12_moves 96 = .ok (.iconst 0, 1) := by decide +kernel
theorem dX12_moves_97 : decode cX12_moves 97 = .ok (.istore 6, 2) := by decide +kernel
theorem dX12_moves_99 : decode cX12_moves 99 = .ok (.iload 6, 2) := by decide +kernel
theorem dX12_moves_101 : decode cX12_moves 101 = .ok (.bipush 64, 2) := by decide +kernel
theorem dX12_moves_103 : decode cX12_moves 103 = .ok (.if_icmp .ge 92, 3) := by decide +kernel
theorem dX12_moves_106 : decode cX12_moves 106 = .ok (.iconst 0, 1) := by decide +kernel
theorem dX12_moves_107 : decode cX12_moves 107 = .ok (.istore 7, 2) := by decide +kernel
theorem dX12_moves_109 : decode cX12_moves 109 = .ok (.iconst 0, 1) := by decide +kernel
theorem dX12_moves_110 : decode cX12_moves 110 = .ok (.istore 8, 2) := by decide +kernel
theorem dX12_moves_112 : decode cX12_moves 112 = .ok (.iload 8, 2) := by decide +kernel
theorem dX12_moves_114 : decode cX12_moves 114 = .ok (.bipush 6, 2) := by decide +kernel
theorem dX12_moves_116 : decode cX12_moves 116 = .ok (.if_icmp .ge 35, 3) := by decide +kernel
theorem dX12_moves_119 : decode cX12_moves 119 = .ok (.iload 6, 2) := by decide +kernel
theorem dX12_moves_121 : decode cX12_moves 121 = .ok (.iload 8, 2) := by decide +kernel
theorem dX12_moves_123 : decode cX12_moves 123 = .ok (.ishr, 1) := by decide +kernel
theorem dX12_moves_124 : decode cX12_moves 124 = .ok (.iconst 1, 1) := by decide +kernel
theorem dX12_moves_125 : decode cX12_moves 125 = .ok (.iand, 1) := by decide +kernel
theorem dX12_moves_126 : decode cX12_moves 126 = .ok (.iconst 1, 1) := by decide +kernel
theorem dX12_moves_127 : decode cX12_moves 127 = .ok (.if_icmp .ne 18, 3) := by decide +kernel
theorem dX12_moves_130 : decode cX12_moves 130 = .ok (.iload 7, 2) := by decide +kernel
theorem dX12_moves_132 : decode cX12_moves 132 = .ok (.aload_n 0, 1) := by decide +kernel
theorem dX12_moves_133 : decode cX12_moves 133 = .ok (.getfield 128, 3) := by decide +kernel
theorem dX12_moves_136 : decode cX12_moves 136 = .ok (.bipush 6, 2) := by decide +kernel
theorem dX12_moves_138 : decode cX12_moves 138 = .ok (.iload 8, 2) := by decide +kernel
theorem dX12_moves_140 : decode cX12_moves 140 = .ok (.iadd, 1) := by decide +kernel
theorem dX12_moves_141 : decode cX12_moves 141 = .ok (.iaload, 1) := by decide +kernel
theorem dX12_moves_142 : decode cX12_moves 142 = .ok (.iadd, 1) := by decide +kernel
theorem dX12_moves_143 : decode cX12_moves 143 = .ok (.istore 7, 2) := by decide +kernel
theorem dX12_moves_145 : decode cX12_moves 145 = .ok (.iinc 8 1, 3) := by decide +kernel
theorem dX12_moves_148 : decode cX12_moves 148 = .ok (.goto (-36), 3) := by decide +kernel
theorem dX12_moves_151 : decode cX12_moves 151 = .ok (.iload 6, 2) := by decide +kernel
theorem dX12_moves_153 : decode cX12_moves 153 = .ok (.iload 4, 2) := by decide +kernel
theorem dX12_moves_155 : decode cX12_moves 155 = .ok (.iconst (-1), 1) := by decide +kernel
theorem dX12_moves_156 : decode cX12_moves 156 = .ok (.ixor, 1) := by decide +kernel
theorem dX12_moves_157 : decode cX12_moves 157 = .ok (.iand, 1) := by decide +kernel
theorem dX12_moves_158 : decode cX12_moves 158 = .ok (.ifCond .ne 31, 3) := by decide +kernel
theorem dX12_moves_161 : decode cX12_moves 161 = .ok (.iload 7, 2) := by decide +kernel
theorem dX12_moves_163 : decode cX12_moves 163 = .ok (.iload_n 3, 1) := by decide +kernel
theorem dX12_moves_164 : decode cX12_moves 164 = .ok (.if_icmp .lt 25, 3) := by decide +kernel
theorem dX12_moves_167 : decode cX12_moves 167 = .ok (.iload 5, 2) := by decide +kernel
theorem dX12_moves_169 : decode cX12_moves 169 = .ok (.ifCond .lt 16, 3) := by decide +kernel
theorem dX12_moves_172 : decode cX12_moves 172 = .ok (.iload 6, 2) := by decide +kernel
theorem dX12_moves_174 : decode cX12_moves 174 = .ok (.invokestatic 435, 3) := by decide +kernel
theorem dX12_moves_177 : decode cX12_moves 177 = .ok (.iload 5, 2) := by decide +kernel
theorem dX12_moves_179 : decode cX12_moves 179 = .ok (.invokestatic 435, 3) := by decide +kernel
theorem dX12_moves_182 : decode cX12_moves 182 = .ok (.if_icmp .ge 7, 3) := by decide +kernel
theorem dX12_moves_185 : decode cX12_moves 185 = .ok (.iload 6, 2) := by decide +kernel
theorem dX12_moves_187 : decode cX12_moves 187 = .ok (.istore 5, 2) := by decide +kernel
theorem dX12_moves_189 : decode cX12_moves 189 = .ok (.iinc 6 1, 3) := by decide +kernel
theorem dX12_moves_192 : decode cX12_moves 192 = .ok (.goto (-93), 3) := by decide +kernel
theorem dX12_moves_195 : decode cX12_moves 195 = .ok (.iload 5, 2) := by decide +kernel
theorem dX12_moves_197 : decode cX12_moves 197 = .ok (.ifCond .lt 8, 3) := by decide +kernel
theorem dX12_moves_200 : decode cX12_moves 200 = .ok (.iload_n 2, 1) := by decide +kernel
theorem dX12_moves_201 : decode cX12_moves 201 = .ok (.iconst 1, 1) := by decide +kernel
theorem dX12_moves_202 : decode cX12_moves 202 = .ok (.if_icmp .ne 8, 3) := by decide +kernel
theorem dX12_moves_205 : decode cX12_moves 205 = .ok (.iload 5, 2) := by decide +kernel
theorem dX12_moves_207 : decode cX12_moves 207 = .ok (.goto 8, 3) := by decide +kernel
theorem dX12_moves_210 : decode cX12_moves 210 = .ok (.iload 5, 2) := by decide +kernel
theorem dX12_moves_212 : decode cX12_moves 212 = .ok (.invokestatic 435, 3) := by decide +kernel
theorem dX12_moves_215 : decode cX12_moves 215 = .ok (.ireturn, 1) := by decide +kernel
theorem dX12_tree_0 : decode cX12_tree 0 = .ok (.iconst 1, 1) := by decide +kernel
theorem dX12_tree_1 : decode cX12_tree 1 = .ok (.aload_n 0, 1) := by decide +kernel
theorem dX12_tree_2 : decode cX12_tree 2 = .ok (.getfield 46, 3) := by decide +kernel
theorem dX12_tree_5 : decode cX12_tree 5 = .ok (.aload_n 0, 1) := by decide +kernel
theorem dX12_tree_6 : decode cX12_tree 6 = .ok (.getfield 251, 3) := by decide +kernel
theorem dX12_tree_9 : decode cX12_tree 9 = .ok (.iaload, 1) := by decide +kernel
theorem dX12_tree_10 : decode cX12_tree 10 = .ok (.ishl, 1) := by decide +kernel
theorem dX12_tree_11 : decode cX12_tree 11 = .ok (.iconst 1, 1) := by decide +kernel
theorem dX12_tree_12 : decode cX12_tree 12 = .ok (.isub, 1) := by decide +kernel
theorem dX12_tree_13 : decode cX12_tree 13 = .ok (.istore_n 1, 1) := by decide +kernel
theorem dX12_tree_14 : decode cX12_tree 14 = .ok (.iload_n 1, 1) := by decide +kernel
theorem dX12_tree_15 : decode cX12_tree 15 = .ok (.ifCond .ne 6, 3) := by decide +kernel
theorem dX12_tree_18 : decode cX12_tree 18 = .ok (.bipush (-2), 2) := by decide +kernel
theorem dX12_tree_20 : decode cX12_tree 20 = .ok (.ireturn, 1) := by decide +kernel
theorem dX12_tree_21 : decode cX12_tree 21 = .ok (.iconst 1, 1) := by decide +kernel
theorem dX12_tree_22 : decode cX12_tree 22 = .ok (.istore_n 2, 1) := by decide +kernel
theorem dX12_tree_23 : decode cX12_tree 23 = .ok (.iconst 0, 1) := by decide +kernel
theorem dX12_tree_24 : decode cX12_tree 24 = .ok (.istore_n 3, 1) := by decide +kernel
theorem dX12_tree_25 : decode cX12_tree 25 = .ok (.iload_n 2, 1) := by decide +kernel
theorem dX12_tree_26 : decode cX12_tree 26 = .ok (.iload_n 1, 1) := by decide +kernel
theorem dX12_tree_27 : decode cX12_tree 27 = .ok (.if_icmp .eq 135, 3) := by decide +kernel
theorem dX12_tree_30 : decode cX12_tree 30 = .ok (.iconst (-1), 1) := by decide +kernel
theorem dX12_tree_31 : decode cX12_tree 31 = .ok (.istore 4, 2) := by decide +kernel
theorem dX12_tree_33 : decode cX12_tree 33 = .ok (.iconst 0, 1) := by decide +kernel
theorem dX12_tree_34 : decode cX12_tree 34 = .ok (.istore 5, 2) := by decide +kernel
theorem dX12_tree_36 : decode cX12_tree 36 = .ok (.iload 5, 2) := by decide +kernel
theorem dX12_tree_38 : decode cX12_tree 38 = .ok (.aload_n 0, 1) := by decide +kernel
theorem dX12_tree_39 : decode cX12_tree 39 = .ok (.getfield 49, 3) := by decide +kernel
theorem dX12_tree_42 : decode cX12_tree 42 = .ok (.aload_n 0, 1) := by decide +kernel
theorem dX12_tree_43 : decode cX12_tree 43 = .ok (.getfield 251, 3) := by decide +kernel
theorem dX12_tree_46 : decode cX12_tree 46 = .ok (.iaload, 1) := by decide +kernel
theorem dX12_tree_47 : decode cX12_tree 47 = .ok (.if_icmp .ge 72, 3) := by decide +kernel
theorem dX12_tree_50 : decode cX12_tree 50 = .ok (.bipush 10, 2) := by decide +kernel
theorem dX12_tree_52 : decode cX12_tree 52 = .ok (.aload_n 0, 1) := by decide +kernel
theorem dX12_tree_53 : decode cX12_tree 53 = .ok (.getfield 251, 3) := by decide +kernel
theorem dX12_tree_56 : decode cX12_tree 56 = .ok (.imul, 1) := by decide +kernel
theorem dX12_tree_57 : decode cX12_tree 57 = .ok (.iload 5, 2) := by decide +kernel
theorem dX12_tree_59 : decode cX12_tree 59 = .ok (.iadd, 1) := by decide +kernel
theorem dX12_tree_60 : decode cX12_tree 60 = .ok (.istore 6, 2) := by decide +kernel
theorem dX12_tree_62 : decode cX12_tree 62 = .ok (.iload_n 2, 1) := by decide +kernel
theorem dX12_tree_63 : decode cX12_tree 63 = .ok (.aload_n 0, 1) := by decide +kernel
theorem dX12_tree_64 : decode cX12_tree 64 = .ok (.getfield 52, 3) := by decide +kernel
theorem dX12_tree_67 : decode cX12_tree 67 = .ok (.iload 6, 2) := by decide +kernel
theorem dX12_tree_69 : decode cX12_tree 69 = .ok (.iaload, 1) := by decide +kernel
theorem dX12_tree_70 : decode cX12_tree 70 = .ok (.ishr, 1) := by decide +kernel
theorem dX12_tree_71 : decode cX12_tree 71 = .ok (.iconst 1, 1) := by decide +kernel
theorem dX12_tree_72 : decode cX12_tree 72 = .ok (.iand, 1) := by decide +kernel
theorem dX12_tree_73 : decode cX12_tree 73 = .ok (.iload_n 2, 1) := by decide +kernel
theorem dX12_tree_74 : decode cX12_tree 74 = .ok (.aload_n 0, 1) := by decide +kernel
theorem dX12_tree_75 : decode cX12_tree 75 = .ok (.getfield 55, 3) := by decide +kernel
theorem dX12_tree_78 : decode cX12_tree 78 = .ok (.iload 6, 2) := by decide +kernel
theorem dX12_tree_80 : decode cX12_tree 80 = .ok (.iaload, 1) := by decide +kernel
theorem dX12_tree_81 : decode cX12_tree 81 = .ok (.ishr, 1) := by decide +kernel
theorem dX12_tree_82 : decode cX12_tree 82 = .ok (.iconst 1, 1) := by decide +kernel
theorem dX12_tree_83 : decode cX12_tree 83 = .ok (.iand, 1) := by decide +kernel
theorem dX12_tree_84 : decode cX12_tree 84 = .ok (.if_icmp .eq 29, 3) := by decide +kernel
theorem dX12_tree_87 : decode cX12_tree 87 = .ok (.iload 4, 2) := by decide +kernel
theorem dX12_tree_89 : decode cX12_tree 89 = .ok (.ifCond .lt 20, 3) := by decide +kernel
theorem dX12_tree_92 : decode cX12_tree 92 = .ok (.aload_n 0, 1) := by decide +kernel
theorem dX12_tree_93 : decode cX12_tree 93 = .ok (.getfield 58, 3) := by decide +kernel
theorem dX12_tree_96 : decode cX12_tree 96 = .ok (.iload 6, 2) := by decide +kernel
theorem dX12_tree_98 : decode cX12_tree 98 = .ok (.iaload, 1) := by decide +kernel
theorem dX12_tree_99 : decode cX12_tree 99 = .ok (.aload_n 0, 1) := by decide +kernel
theorem dX12_tree_100 : decode cX12_tree 100 = .ok (.getfield 58, 3) := by decide +kernel
theorem dX12_tree_103 : decode cX12_tree 103 = .ok (.iload 4, 2) := by decide +kernel
theorem dX12_tree_105 : decode cX12_tree 105 = .ok (.iaload, 1) := by decide +kernel
theorem dX12_tree_106 : decode cX12_tree 106 = .ok (.if_icmp .ge 7, 3) := by decide +kernel
theorem dX12_tree_109 : decode cX12_tree 109 = .ok (.iload 6, 2) := by decide +kernel
theorem dX12_tree_111 : decode cX12_tree 111 = .ok (.istore 4, 2) := by decide +kernel
theorem dX12_tree_113 : decode cX12_tree 113 = .ok (.iinc 5 1, 3) := by decide +kernel
theorem dX12_tree_116 : decode cX12_tree 116 = .ok (.goto (-80), 3) := by decide +kernel
theorem dX12_tree_119 : decode cX12_tree 119 = .ok (.iload 4, 2) := by decide +kernel
theorem dX12_tree_121 : decode cX12_tree 121 = .ok (.ifCond .ge 6, 3) := by decide +kernel
theorem dX12_tree_124 : decode cX12_tree 124 = .ok (.bipush (-2), 2) := by decide +kernel
theorem dX12_tree_126 : decode cX12_tree 126 = .ok (.ireturn, 1) := by decide +kernel
theorem dX12_tree_127 : decode cX12_tree 127 = .ok (.iload_n 2, 1) := by decide +kernel
theorem dX12_tree_128 : decode cX12_tree 128 = .ok (.iconst 1, 1) := by decide +kernel
theorem dX12_tree_129 : decode cX12_tree 129 = .ok (.aload_n 0, 1) := by decide +kernel
theorem dX12_tree_130 : decode cX12_tree 130 = .ok (.getfield 52, 3) := by decide +kernel
theorem dX12_tree_133 : decode cX12_tree 133 = .ok (.iload 4, 2) := by decide +kernel
theorem dX12_tree_135 : decode cX12_tree 135 = .ok (.iaload, 1) := by decide +kernel
theorem dX12_tree_136 : decode cX12_tree 136 = .ok (.ishl, 1) := by decide +kernel
theorem dX12_tree_137 : decode cX12_tree 137 = .ok (.iconst 1, 1) := by decide +kernel
theorem dX12_tree_138 : decode cX12_tree 138 = .ok (.aload_n 0, 1) := by decide +kernel
theorem dX12_tree_139 : decode cX12_tree 139 = .ok (.getfield 55, 3) := by decide +kernel
theorem dX12_tree_142 : decode cX12_tree 142 = .ok (.iload 4, 2) := by decide +kernel
theorem dX12_tree_144 : decode cX12_tree 144 = .ok (.iaload, 1) := by decide +kernel
theorem dX12_tree_145 : decode cX12_tree 145 = .ok (.ishl, 1) := by decide +kernel
theorem dX12_tree_146 : decode cX12_tree 146 = .ok (.ior, 1) := by decide +kernel
theorem dX12_tree_147 : decode cX12_tree 147 = .ok (.ior, 1) := by decide +kernel
theorem dX12_tree_148 : decode cX12_tree 148 = .ok (.istore_n 2, 1) := by decide +kernel
theorem dX12_tree_149 : decode cX12_tree 149 = .ok (.iload_n 3, 1) := by decide +kernel
theorem dX12_tree_150 : decode cX12_tree 150 = .ok (.aload_n 0, 1) := by decide +kernel
theorem dX12_tree_151 : decode cX12_tree 151 = .ok (.getfield 58, 3) := by decide +kernel
theorem dX12_tree_154 : decode cX12_tree 154 = .ok (.iload 4, 2) := by decide +kernel
theorem dX12_tree_156 : decode cX12_tree 156 = .ok (.iaload, 1) := by decide +kernel
theorem dX12_tree_157 : decode cX12_tree 157 = .ok (.iadd, 1) := by decide +kernel
theorem dX12_tree_158 : decode cX12_tree 158 = .ok (.istore_n 3, 1) := by decide +kernel
theorem dX12_tree_159 : decode cX12_tree 159 = .ok (.goto (-134), 3) := by decide +kernel
theorem dX12_tree_162 : decode cX12_tree 162 = .ok (.iload_n 3, 1) := by decide +kernel
theorem dX12_tree_163 : decode cX12_tree 163 = .ok (.ireturn, 1) := by decide +kernel
theorem dX12_homeBits_0 : decode cX12_homeBits 0 = .ok (.iconst 0, 1) := by decide +kernel
theorem dX12_homeBits_1 : decode cX12_homeBits 1 = .ok (.istore_n 1, 1) := by decide +kernel
theorem dX12_homeBits_2 : decode cX12_homeBits 2 = .ok (.iconst 0, 1) := by decide +kernel
theorem dX12_homeBits_3 : decode cX12_homeBits 3 = .ok (.istore_n 2, 1) := by decide +kernel
theorem dX12_homeBits_4 : decode cX12_homeBits 4 = .ok (.iload_n 2, 1) := by decide +kernel
theorem dX12_homeBits_5 : decode cX12_homeBits 5 = .ok (.aload_n 0, 1) := by decide +kernel
theorem dX12_homeBits_6 : decode cX12_homeBits 6 = .ok (.getfield 61, 3) := by decide +kernel
theorem dX12_homeBits_9 : decode cX12_homeBits 9 = .ok (.aload_n 0, 1) := by decide +kernel
theorem dX12_homeBits_10 : decode cX12_homeBits 10 = .ok (.getfield 251, 3) := by decide +kernel
theorem dX12_homeBits_13 : decode cX12_homeBits 13 = .ok (.iaload, 1) := by decide +kernel
theorem dX12_homeBits_14 : decode cX12_homeBits 14 = .ok (.if_icmp .ge 23, 3) := by decide +kernel
theorem dX12_homeBits_17 : decode cX12_homeBits 17 = .ok (.iload_n 1, 1) := by decide +kernel
theorem dX12_homeBits_18 : decode cX12_homeBits 18 = .ok (.aload_n 0, 1) := by decide +kernel
theorem dX12_homeBits_19 : decode cX12_homeBits 19 = .ok (.getfield 128, 3) := by decide +kernel
theorem dX12_homeBits_22 : decode cX12_homeBits 22 = .ok (.bipush 12, 2) := by decide +kernel
theorem dX12_homeBits_24 : decode cX12_homeBits 24 = .ok (.iload_n 2, 1) := by decide +kernel
theorem dX12_homeBits_25 : decode cX12_homeBits 25 = .ok (.iadd, 1) := by decide +kernel
theorem dX12_homeBits_26 : decode cX12_homeBits 26 = .ok (.iaload, 1) := by decide +kernel
theorem dX12_homeBits_27 : decode cX12_homeBits 27 = .ok (.iload_n 2, 1) := by decide +kernel
theorem dX12_homeBits_28 : decode cX12_homeBits 28 = .ok (.ishl, 1) := by decide +kernel
theorem dX12_homeBits_29 : decode cX12_homeBits 29 = .ok (.ior, 1) := by decide +kernel
theorem dX12_homeBits_30 : decode cX12_homeBits 30 = .ok (.istore_n 1, 1) := by decide +kernel
theorem dX12_homeBits_31 : decode cX12_homeBits 31 = .ok (.iinc 2 1, 3) := by decide +kernel
theorem dX12_homeBits_34 : decode cX12_homeBits 34 = .ok (.goto (-30), 3) := by decide +kernel
theorem dX12_homeBits_37 : decode cX12_homeBits 37 = .ok (.iload_n 1, 1) := by decide +kernel
theorem dX12_homeBits_38 : decode cX12_homeBits 38 = .ok (.ireturn, 1) := by decide +kernel
theorem dX12_glowIn_0 : decode cX12_glowIn 0 = .ok (.aload_n 0, 1) := by decide +kernel
theorem dX12_glowIn_1 : decode cX12_glowIn 1 = .ok (.iload_n 1, 1) := by decide +kernel
theorem dX12_glowIn_2 : decode cX12_glowIn 2 = .ok (.invokevirtual 338, 3) := by decide +kernel
theorem dX12_glowIn_5 : decode cX12_glowIn 5 = .ok (.ifCond .eq 13, 3) := by decide +kernel
theorem dX12_glowIn_8 : decode cX12_glowIn 8 = .ok (.iload_n 2, 1) := by decide +kernel
theorem dX12_glowIn_9 : decode cX12_glowIn 9 = .ok (.iconst 0, 1) := by decide +kernel
theorem dX12_glowIn_10 : decode cX12_glowIn 10 = .ok (.bipush 72, 2) := by decide +kernel
theorem dX12_glowIn_12 : decode cX12_glowIn 12 = .ok (.invokestatic 334, 3) := by decide +kernel
theorem dX12_glowIn_15 : decode cX12_glowIn 15 = .ok (.ifCond .ne 5, 3) := by decide +kernel
theorem dX12_glowIn_18 : decode cX12_glowIn 18 = .ok (.iconst (-1), 1) := by decide +kernel
theorem dX12_glowIn_19 : decode cX12_glowIn 19 = .ok (.ireturn, 1) := by decide +kernel
theorem dX12_glowIn_20 : decode cX12_glowIn 20 = .ok (.aload_n 0, 1) := by decide +kernel
theorem dX12_glowIn_21 : decode cX12_glowIn 21 = .ok (.invokevirtual 347, 3) := by decide +kernel
theorem dX12_glowIn_24 : decode cX12_glowIn 24 = .ok (.aload_n 0, 1) := by decide +kernel
theorem dX12_glowIn_25 : decode cX12_glowIn 25 = .ok (.iload_n 2, 1) := by decide +kernel
theorem dX12_glowIn_26 : decode cX12_glowIn 26 = .ok (.invokevirtual 426, 3) := by decide +kernel
theorem dX12_glowIn_29 : decode cX12_glowIn 29 = .ok (.aload_n 0, 1) := by decide +kernel
theorem dX12_glowIn_30 : decode cX12_glowIn 30 = .ok (.getfield 128, 3) := by decide +kernel
theorem dX12_glowIn_33 : decode cX12_glowIn 33 = .ok (.bipush 6, 2) := by decide +kernel
theorem dX12_glowIn_35 : decode cX12_glowIn 35 = .ok (.iload_n 1, 1) := by decide +kernel
theorem dX12_glowIn_36 : decode cX12_glowIn 36 = .ok (.iadd, 1) := by decide +kernel
theorem dX12_glowIn_37 : decode cX12_glowIn 37 = .ok (.iaload, 1) := by decide +kernel
theorem dX12_glowIn_38 : decode cX12_glowIn 38 = .ok (.ireturn, 1) := by decide +kernel
theorem dX12_then_0 : decode cX12_then 0 = .ok (.iload_n 1, 1) := by decide +kernel
theorem dX12_then_1 : decode cX12_then 1 = .ok (.iconst 0, 1) := by decide +kernel
theorem dX12_then_2 : decode cX12_then 2 = .ok (.bipush 72, 2) := by decide +kernel
theorem dX12_then_4 : decode cX12_then 4 = .ok (.invokestatic 334, 3) := by decide +kernel
theorem dX12_then_7 : decode cX12_then 7 = .ok (.ifCond .eq 12, 3) := by decide +kernel
theorem dX12_then_10 : decode cX12_then 10 = .ok (.iload_n 2, 1) := by decide +kernel
theorem dX12_then_11 : decode cX12_then 11 = .ok (.iconst 0, 1) := by decide +kernel
theorem dX12_then_12 : decode cX12_then 12 = .ok (.iconst 1, 1) := by decide +kernel
theorem dX12_then_13 : decode cX12_then 13 = .ok (.invokestatic 334, 3) := by decide +kernel
theorem dX12_then_16 : decode cX12_then 16 = .ok (.ifCond .ne 5, 3) := by decide +kernel
theorem dX12_then_19 : decode cX12_then 19 = .ok (.iconst (-1), 1) := by decide +kernel
theorem dX12_then_20 : decode cX12_then 20 = .ok (.ireturn, 1) := by decide +kernel
theorem dX12_then_21 : decode cX12_then 21 = .ok (.aload_n 0, 1) := by decide +kernel
theorem dX12_then_22 : decode cX12_then 22 = .ok (.invokevirtual 347, 3) := by decide +kernel
theorem dX12_then_25 : decode cX12_then 25 = .ok (.aload_n 0, 1) := by decide +kernel
theorem dX12_then_26 : decode cX12_then 26 = .ok (.iload_n 1, 1) := by decide +kernel
theorem dX12_then_27 : decode cX12_then 27 = .ok (.invokevirtual 426, 3) := by decide +kernel
theorem dX12_then_30 : decode cX12_then 30 = .ok (.iload_n 2, 1) := by decide +kernel
theorem dX12_then_31 : decode cX12_then 31 = .ok (.ifCond .ne 10, 3) := by decide +kernel
theorem dX12_then_34 : decode cX12_then 34 = .ok (.aload_n 0, 1) := by decide +kernel
theorem dX12_then_35 : decode cX12_then 35 = .ok (.invokevirtual 432, 3) := by decide +kernel
theorem dX12_then_38 : decode cX12_then 38 = .ok (.goto 7, 3) := by decide +kernel
theorem dX12_then_41 : decode cX12_then 41 = .ok (.aload_n 0, 1) := by decide +kernel
theorem dX12_then_42 : decode cX12_then 42 = .ok (.invokevirtual 462, 3) := by decide +kernel
theorem dX12_then_45 : decode cX12_then 45 = .ok (.ireturn, 1) := by decide +kernel
theorem dX12_year_0 : decode cX12_year 0 = .ok (.aload_n 0, 1) := by decide +kernel
theorem dX12_year_1 : decode cX12_year 1 = .ok (.iload_n 1, 1) := by decide +kernel
theorem dX12_year_2 : decode cX12_year 2 = .ok (.invokevirtual 405, 3) := by decide +kernel
theorem dX12_year_5 : decode cX12_year 5 = .ok (.ifCond .eq 23, 3) := by decide +kernel
theorem dX12_year_8 : decode cX12_year 8 = .ok (.iload_n 2, 1) := by decide +kernel
theorem dX12_year_9 : decode cX12_year 9 = .ok (.iconst 0, 1) := by decide +kernel
theorem dX12_year_10 : decode cX12_year 10 = .ok (.bipush 72, 2) := by decide +kernel
theorem dX12_year_12 : decode cX12_year 12 = .ok (.invokestatic 334, 3) := by decide +kernel
theorem dX12_year_15 : decode cX12_year 15 = .ok (.ifCond .eq 13, 3) := by decide +kernel
theorem dX12_year_18 : decode cX12_year 18 = .ok (.iload_n 3, 1) := by decide +kernel
theorem dX12_year_19 : decode cX12_year 19 = .ok (.iconst 1, 1) := by decide +kernel
theorem dX12_year_20 : decode cX12_year 20 = .ok (.bipush 20, 2) := by decide +kernel
theorem dX12_year_22 : decode cX12_year 22 = .ok (.invokestatic 334, 3) := by decide +kernel
theorem dX12_year_25 : decode cX12_year 25 = .ok (.ifCond .ne 5, 3) := by decide +kernel
theorem dX12_year_28 : decode cX12_year 28 = .ok (.iconst (-1), 1) := by decide +kernel
theorem dX12_year_29 : decode cX12_year 29 = .ok (.ireturn, 1) := by decide +kernel
theorem dX12_year_30 : decode cX12_year 30 = .ok (.iconst 0, 1) := by decide +kernel
theorem dX12_year_31 : decode cX12_year 31 = .ok (.istore 4, 2) := by decide +kernel
theorem dX12_year_33 : decode cX12_year 33 = .ok (.iconst 0, 1) := by decide +kernel
theorem dX12_year_34 : decode cX12_year 34 = .ok (.istore 5, 2) := by decide +kernel
theorem dX12_year_36 : decode cX12_year 36 = .ok (.iload 5, 2) := by decide +kernel
theorem dX12_year_38 : decode cX12_year 38 = .ok (.iload_n 3, 1) := by decide +kernel
theorem dX12_year_39 : decode cX12_year 39 = .ok (.if_icmp .ge 40, 3) := by decide +kernel
theorem dX12_year_42 : decode cX12_year 42 = .ok (.aload_n 0, 1) := by decide +kernel
theorem dX12_year_43 : decode cX12_year 43 = .ok (.invokevirtual 347, 3) := by decide +kernel
theorem dX12_year_46 : decode cX12_year 46 = .ok (.aload_n 0, 1) := by decide +kernel
theorem dX12_year_47 : decode cX12_year 47 = .ok (.dup, 1) := by decide +kernel
theorem dX12_year_48 : decode cX12_year 48 = .ok (.getfield 341, 3) := by decide +kernel
theorem dX12_year_51 : decode cX12_year 51 = .ok (.iload 5, 2) := by decide +kernel
theorem dX12_year_53 : decode cX12_year 53 = .ok (.iadd, 1) := by decide +kernel
theorem dX12_year_54 : decode cX12_year 54 = .ok (.putfield 341, 3) := by decide +kernel
theorem dX12_year_57 : decode cX12_year 57 = .ok (.aload_n 0, 1) := by decide +kernel
theorem dX12_year_58 : decode cX12_year 58 = .ok (.iload_n 2, 1) := by decide +kernel
theorem dX12_year_59 : decode cX12_year 59 = .ok (.invokevirtual 426, 3) := by decide +kernel
theorem dX12_year_62 : decode cX12_year 62 = .ok (.aload_n 0, 1) := by decide +kernel
theorem dX12_year_63 : decode cX12_year 63 = .ok (.iload_n 1, 1) := by decide +kernel
theorem dX12_year_64 : decode cX12_year 64 = .ok (.invokevirtual 408, 3) := by decide +kernel
theorem dX12_year_67 : decode cX12_year 67 = .ok (.ifCond .ne 6, 3) := by decide +kernel
theorem dX12_year_70 : decode cX12_year 70 = .ok (.iinc 4 1, 3) := by decide +kernel
theorem dX12_year_73 : decode cX12_year 73 = .ok (.iinc 5 1, 3) := by decide +kernel
theorem dX12_year_76 : decode cX12_year 76 = .ok (.goto (-40), 3) := by decide +kernel
theorem dX12_year_79 : decode cX12_year 79 = .ok (.iload 4, 2) := by decide +kernel
theorem dX12_year_81 : decode cX12_year 81 = .ok (.ireturn, 1) := by decide +kernel
theorem dX12_tell_0 : decode cX12_tell 0 = .ok (.aload_n 0, 1) := by decide +kernel
theorem dX12_tell_1 : decode cX12_tell 1 = .ok (.getfield 272, 3) := by decide +kernel
theorem dX12_tell_4 : decode cX12_tell 4 = .ok (.bipush 20, 2) := by decide +kernel
theorem dX12_tell_6 : decode cX12_tell 6 = .ok (.if_icmp .eq 22, 3) := by decide +kernel
theorem dX12_tell_9 : decode cX12_tell 9 = .ok (.aload_n 0, 1) := by decide +kernel
theorem dX12_tell_10 : decode cX12_tell 10 = .ok (.iload_n 1, 1) := by decide +kernel
theorem dX12_tell_11 : decode cX12_tell 11 = .ok (.invokevirtual 420, 3) := by decide +kernel
theorem dX12_tell_14 : decode cX12_tell 14 = .ok (.ifCond .eq 14, 3) := by decide +kernel
theorem dX12_tell_17 : decode cX12_tell 17 = .ok (.iload_n 2, 1) := by decide +kernel
theorem dX12_tell_18 : decode cX12_tell 18 = .ok (.iconst 0, 1) := by decide +kernel
theorem dX12_tell_19 : decode cX12_tell 19 = .ok (.sipush 999, 3) := by decide +kernel
theorem dX12_tell_22 : decode cX12_tell 22 = .ok (.invokestatic 334, 3) := by decide +kernel
theorem dX12_tell_25 : decode cX12_tell 25 = .ok (.ifCond .ne 5, 3) := by decide +kernel
theorem dX12_tell_28 : decode cX12_tell 28 = .ok (.iconst (-1), 1) := by decide +kernel
theorem dX12_tell_29 : decode cX12_tell 29 = .ok (.ireturn, 1) := by decide +kernel
theorem dX12_tell_30 : decode cX12_tell 30 = .ok (.aload_n 0, 1) := by decide +kernel
theorem dX12_tell_31 : decode cX12_tell 31 = .ok (.getfield 155, 3) := by decide +kernel
theorem dX12_tell_34 : decode cX12_tell 34 = .ok (.aload_n 0, 1) := by decide +kernel
theorem dX12_tell_35 : decode cX12_tell 35 = .ok (.getfield 272, 3) := by decide +kernel
theorem dX12_tell_38 : decode cX12_tell 38 = .ok (.iload_n 1, 1) := by decide +kernel
theorem dX12_tell_39 : decode cX12_tell 39 = .ok (.iastore, 1) := by decide +kernel
theorem dX12_tell_40 : decode cX12_tell 40 = .ok (.aload_n 0, 1) := by decide +kernel
theorem dX12_tell_41 : decode cX12_tell 41 = .ok (.getfield 158, 3) := by decide +kernel
theorem dX12_tell_44 : decode cX12_tell 44 = .ok (.aload_n 0, 1) := by decide +kernel
theorem dX12_tell_45 : decode cX12_tell 45 = .ok (.getfield 272, 3) := by decide +kernel
theorem dX12_tell_48 : decode cX12_tell 48 = .ok (.iload_n 2, 1) := by decide +kernel
theorem dX12_tell_49 : decode cX12_tell 49 = .ok (.iastore, 1) := by decide +kernel
theorem dX12_tell_50 : decode cX12_tell 50 = .ok (.aload_n 0, 1) := by decide +kernel
theorem dX12_tell_51 : decode cX12_tell 51 = .ok (.getfield 161, 3) := by decide +kernel
theorem dX12_tell_54 : decode cX12_tell 54 = .ok (.aload_n 0, 1) := by decide +kernel
theorem dX12_tell_55 : decode cX12_tell 55 = .ok (.getfield 272, 3) := by decide +kernel
theorem dX12_tell_58 : decode cX12_tell 58 = .ok (.iload_n 3, 1) := by decide +kernel
theorem dX12_tell_59 : decode cX12_tell 59 = .ok (.bastore, 1) := by decide +kernel
theorem dX12_tell_60 : decode cX12_tell 60 = .ok (.aload_n 0, 1) := by decide +kernel
theorem dX12_tell_61 : decode cX12_tell 61 = .ok (.dup, 1) := by decide +kernel
theorem dX12_tell_62 : decode cX12_tell 62 = .ok (.getfield 272, 3) := by decide +kernel
theorem dX12_tell_65 : decode cX12_tell 65 = .ok (.iconst 1, 1) := by decide +kernel
theorem dX12_tell_66 : decode cX12_tell 66 = .ok (.iadd, 1) := by decide +kernel
theorem dX12_tell_67 : decode cX12_tell 67 = .ok (.putfield 272, 3) := by decide +kernel
theorem dX12_tell_70 : decode cX12_tell 70 = .ok (.aload_n 0, 1) := by decide +kernel
theorem dX12_tell_71 : decode cX12_tell 71 = .ok (.getfield 272, 3) := by decide +kernel
theorem dX12_tell_74 : decode cX12_tell 74 = .ok (.iconst 1, 1) := by decide +kernel
theorem dX12_tell_75 : decode cX12_tell 75 = .ok (.isub, 1) := by decide +kernel
theorem dX12_tell_76 : decode cX12_tell 76 = .ok (.ireturn, 1) := by decide +kernel
theorem dX12_forget_0 : decode cX12_forget 0 = .ok (.aload_n 0, 1) := by decide +kernel
theorem dX12_forget_1 : decode cX12_forget 1 = .ok (.getfield 272, 3) := by decide +kernel
theorem dX12_forget_4 : decode cX12_forget 4 = .ok (.istore_n 1, 1) := by decide +kernel
theorem dX12_forget_5 : decode cX12_forget 5 = .ok (.aload_n 0, 1) := by decide +kernel
theorem dX12_forget_6 : decode cX12_forget 6 = .ok (.iconst 0, 1) := by decide +kernel
theorem dX12_forget_7 : decode cX12_forget 7 = .ok (.putfield 272, 3) := by decide +kernel
theorem dX12_forget_10 : decode cX12_forget 10 = .ok (.iload_n 1, 1) := by decide +kernel
theorem dX12_forget_11 : decode cX12_forget 11 = .ok (.ireturn, 1) := by decide +kernel
theorem dX12_wouldGlow_0 : decode cX12_wouldGlow 0 = .ok (.aload_n 0, 1) := by decide +kernel
theorem dX12_wouldGlow_1 : decode cX12_wouldGlow 1 = .ok (.getfield 128, 3) := by decide +kernel
theorem dX12_wouldGlow_4 : decode cX12_wouldGlow 4 = .ok (.bipush 12, 2) := by decide +kernel
theorem dX12_wouldGlow_6 : decode cX12_wouldGlow 6 = .ok (.iload_n 1, 1) := by decide +kernel
theorem dX12_wouldGlow_7 : decode cX12_wouldGlow 7 = .ok (.iadd, 1) := by decide +kernel
theorem dX12_wouldGlow_8 : decode cX12_wouldGlow 8 = .ok (.iaload, 1) := by decide +kernel
theorem dX12_wouldGlow_9 : decode cX12_wouldGlow 9 = .ok (.iconst 1, 1) := by decide +kernel
theorem dX12_wouldGlow_10 : decode cX12_wouldGlow 10 = .ok (.if_icmp .ne 7, 3) := by decide +kernel
theorem dX12_wouldGlow_13 : decode cX12_wouldGlow 13 = .ok (.iconst 0, 1) := by decide +kernel
theorem dX12_wouldGlow_14 : decode cX12_wouldGlow 14 = .ok (.goto 9, 3) := by decide +kernel
theorem dX12_wouldGlow_17 : decode cX12_wouldGlow 17 = .ok (.aload_n 0, 1) := by decide +kernel
theorem dX12_wouldGlow_18 : decode cX12_wouldGlow 18 = .ok (.iload_n 1, 1) := by decide +kernel
theorem dX12_wouldGlow_19 : decode cX12_wouldGlow 19 = .ok (.iload_n 2, 1) := by decide +kernel
theorem dX12_wouldGlow_20 : decode cX12_wouldGlow 20 = .ok (.invokevirtual 441, 3) := by decide +kernel
theorem dX12_wouldGlow_23 : decode cX12_wouldGlow 23 = .ok (.ireturn, 1) := by decide +kernel
theorem dX12_wordBits_0 : decode cX12_wordBits 0 = .ok (.aload_n 0, 1) := by decide +kernel
theorem dX12_wordBits_1 : decode cX12_wordBits 1 = .ok (.invokevirtual 347, 3) := by decide +kernel
theorem dX12_wordBits_4 : decode cX12_wordBits 4 = .ok (.iconst 0, 1) := by decide +kernel
theorem dX12_wordBits_5 : decode cX12_wordBits 5 = .ok (.istore_n 2, 1) := by decide +kernel
theorem dX12_wordBits_6 : decode cX12_wordBits 6 = .ok (.iconst 0, 1) := by decide +kernel
theorem dX12_wordBits_7 : decode cX12_wordBits 7 = .ok (.istore_n 3, 1) := by decide +kernel
theorem dX12_wordBits_8 : decode cX12_wordBits 8 = .ok (.iload_n 3, 1) := by decide +kernel
theorem dX12_wordBits_9 : decode cX12_wordBits 9 = .ok (.aload_n 0, 1) := by decide +kernel
theorem dX12_wordBits_10 : decode cX12_wordBits 10 = .ok (.getfield 73, 3) := by decide +kernel
theorem dX12_wordBits_13 : decode cX12_wordBits 13 = .ok (.aload_n 0, 1) := by decide +kernel
theorem dX12_wordBits_14 : decode cX12_wordBits 14 = .ok (.getfield 251, 3) := by decide +kernel
theorem dX12_wordBits_17 : decode cX12_wordBits 17 = .ok (.iaload, 1) := by decide +kernel
theorem dX12_wordBits_18 : decode cX12_wordBits 18 = .ok (.if_icmp .ge 78, 3) := by decide +kernel
theorem dX12_wordBits_21 : decode cX12_wordBits 21 = .ok (.iconst 1, 1) := by decide +kernel
theorem dX12_wordBits_22 : decode cX12_wordBits 22 = .ok (.istore 4, 2) := by decide +kernel
theorem dX12_wordBits_24 : decode cX12_wordBits 24 = .ok (.iconst 0, 1) := by decide +kernel
theorem dX12_wordBits_25 : decode cX12_wordBits 25 = .ok (.istore 5, 2) := by decide +kernel
theorem dX12_wordBits_27 : decode cX12_wordBits 27 = .ok (.iload 5, 2) := by decide +kernel
theorem dX12_wordBits_29 : decode cX12_wordBits 29 = .ok (.iload_n 1, 1) := by decide +kernel
theorem dX12_wordBits_30 : decode cX12_wordBits 30 = .ok (.if_icmp .ge 49, 3) := by decide +kernel
theorem dX12_wordBits_33 : decode cX12_wordBits 33 = .ok (.aload_n 0, 1) := by decide +kernel
theorem dX12_wordBits_34 : decode cX12_wordBits 34 = .ok (.aload_n 0, 1) := by decide +kernel
theorem dX12_wordBits_35 : decode cX12_wordBits 35 = .ok (.getfield 155, 3) := by decide +kernel
theorem dX12_wordBits_38 : decode cX12_wordBits 38 = .ok (.iload 5, 2) := by decide +kernel
theorem dX12_wordBits_40 : decode cX12_wordBits 40 = .ok (.iaload, 1) := by decide +kernel
theorem dX12_wordBits_41 : decode cX12_wordBits 41 = .ok (.iload_n 3, 1) := by decide +kernel
theorem dX12_wordBits_42 : decode cX12_wordBits 42 = .ok (.invokevirtual 465, 3) := by decide +kernel
theorem dX12_wordBits_45 : decode cX12_wordBits 45 = .ok (.aload_n 0, 1) := by decide +kernel
theorem dX12_wordBits_46 : decode cX12_wordBits 46 = .ok (.getfield 158, 3) := by decide +kernel
theorem dX12_wordBits_49 : decode cX12_wordBits 49 = .ok (.iload 5, 2) := by decide +kernel
theorem dX12_wordBits_51 : decode cX12_wordBits 51 = .ok (.iaload, 1) := by decide +kernel
theorem dX12_wordBits_52 : decode cX12_wordBits 52 = .ok (.if_icmp .lt 7, 3) := by decide +kernel
theorem dX12_wordBits_55 : decode cX12_wordBits 55 = .ok (.iconst 1, 1) := by decide +kernel
theorem dX12_wordBits_56 : decode cX12_wordBits 56 = .ok (.goto 4, 3) := by decide +kernel
theorem dX12_wordBits_59 : decode cX12_wordBits 59 = .ok (.iconst 0, 1) := by decide +kernel
theorem dX12_wordBits_60 : decode cX12_wordBits 60 = .ok (.aload_n 0, 1) := by decide +kernel
theorem dX12_wordBits_61 : decode cX12_wordBits 61 = .ok (.getfield 161, 3) := by decide +kernel
theorem dX12_wordBits_64 : decode cX12_wordBits 64 = .ok (.iload 5, 2) := by decide +kernel
theorem dX12_wordBits_66 : decode cX12_wordBits 66 = .ok (.baload, 1) := by decide +kernel
theorem dX12_wordBits_67 : decode cX12_wordBits 67 = .ok (.if_icmp .eq 6, 3) := by decide +kernel
theorem dX12_wordBits_70 : decode cX12_wordBits 70 = .ok (.iconst 0, 1) := by decide +kernel
theorem dX12_wordBits_71 : decode cX12_wordBits 71 = .ok (.istore 4, 2) := by decide +kernel
theorem dX12_wordBits_73 : decode cX12_wordBits 73 = .ok (.iinc 5 1, 3) := by decide +kernel
theorem dX12_wordBits_76 : decode cX12_wordBits 76 = .ok (.goto (-49), 3) := by decide +kernel
theorem dX12_wordBits_79 : decode cX12_wordBits 79 = .ok (.iload 4, 2) := by decide +kernel
theorem dX12_wordBits_81 : decode cX12_wordBits 81 = .ok (.ifCond .eq 9, 3) := by decide +kernel
theorem dX12_wordBits_84 : decode cX12_wordBits 84 = .ok (.iload_n 2, 1) := by decide +kernel
theorem dX12_wordBits_85 : decode cX12_wordBits 85 = .ok (.iconst 1, 1) := by decide +kernel
theorem dX12_wordBits_86 : decode cX12_wordBits 86 = .ok (.iload_n 3, 1) := by decide +kernel
theorem dX12_wordBits_87 : decode cX12_wordBits 87 = .ok (.ishl, 1) := by decide +kernel
theorem dX12_wordBits_88 : decode cX12_wordBits 88 = .ok (.ior, 1) := by decide +kernel
theorem dX12_wordBits_89 : decode cX12_wordBits 89 = .ok (.istore_n 2, 1) := by decide +kernel
theorem dX12_wordBits_90 : decode cX12_wordBits 90 = .ok (.iinc 3 1, 3) := by decide +kernel
theorem dX12_wordBits_93 : decode cX12_wordBits 93 = .ok (.goto (-85), 3) := by decide +kernel
theorem dX12_wordBits_96 : decode cX12_wordBits 96 = .ok (.iload_n 2, 1) := by decide +kernel
theorem dX12_wordBits_97 : decode cX12_wordBits 97 = .ok (.ireturn, 1) := by decide +kernel
theorem dX12_words_0 : decode cX12_words 0 = .ok (.iload_n 1, 1) := by decide +kernel
theorem dX12_words_1 : decode cX12_words 1 = .ok (.iconst 0, 1) := by decide +kernel
theorem dX12_words_2 : decode cX12_words 2 = .ok (.aload_n 0, 1) := by decide +kernel
theorem dX12_words_3 : decode cX12_words 3 = .ok (.getfield 272, 3) := by decide +kernel
theorem dX12_words_6 : decode cX12_words 6 = .ok (.invokestatic 334, 3) := by decide +kernel
theorem dX12_words_9 : decode cX12_words 9 = .ok (.ifCond .eq 12, 3) := by decide +kernel
theorem dX12_words_12 : decode cX12_words 12 = .ok (.iload_n 2, 1) := by decide +kernel
theorem dX12_words_13 : decode cX12_words 13 = .ok (.iconst 0, 1) := by decide +kernel
theorem dX12_words_14 : decode cX12_words 14 = .ok (.iconst 1, 1) := by decide +kernel
theorem dX12_words_15 : decode cX12_words 15 = .ok (.invokestatic 334, 3) := by decide +kernel
theorem dX12_words_18 : decode cX12_words 18 = .ok (.ifCond .ne 5, 3) := by decide +kernel
theorem dX12_words_21 : decode cX12_words 21 = .ok (.iconst (-1), 1) := by decide +kernel
theorem dX12_words_22 : decode cX12_words 22 = .ok (.ireturn, 1) := by decide +kernel
theorem dX12_words_23 : decode cX12_words 23 = .ok (.aload_n 0, 1) := by decide +kernel
theorem dX12_words_24 : decode cX12_words 24 = .ok (.iload_n 1, 1) := by decide +kernel
theorem dX12_words_25 : decode cX12_words 25 = .ok (.invokevirtual 468, 3) := by decide +kernel
theorem dX12_words_28 : decode cX12_words 28 = .ok (.istore_n 3, 1) := by decide +kernel
theorem dX12_words_29 : decode cX12_words 29 = .ok (.iload_n 2, 1) := by decide +kernel
theorem dX12_words_30 : decode cX12_words 30 = .ok (.ifCond .ne 10, 3) := by decide +kernel
theorem dX12_words_33 : decode cX12_words 33 = .ok (.iload_n 3, 1) := by decide +kernel
theorem dX12_words_34 : decode cX12_words 34 = .ok (.invokestatic 435, 3) := by decide +kernel
theorem dX12_words_37 : decode cX12_words 37 = .ok (.goto 4, 3) := by decide +kernel
theorem dX12_words_40 : decode cX12_words 40 = .ok (.iload_n 3, 1) := by decide +kernel
theorem dX12_words_41 : decode cX12_words 41 = .ok (.ireturn, 1) := by decide +kernel
theorem dX12_look_0 : decode cX12_look 0 = .ok (.iload_n 1, 1) := by decide +kernel
theorem dX12_look_1 : decode cX12_look 1 = .ok (.iconst 0, 1) := by decide +kernel
theorem dX12_look_2 : decode cX12_look 2 = .ok (.aload_n 0, 1) := by decide +kernel
theorem dX12_look_3 : decode cX12_look 3 = .ok (.getfield 272, 3) := by decide +kernel
theorem dX12_look_6 : decode cX12_look 6 = .ok (.invokestatic 334, 3) := by decide +kernel
theorem dX12_look_9 : decode cX12_look 9 = .ok (.ifCond .eq 14, 3) := by decide +kernel
theorem dX12_look_12 : decode cX12_look 12 = .ok (.iload_n 2, 1) := by decide +kernel
theorem dX12_look_13 : decode cX12_look 13 = .ok (.iconst 0, 1) := by decide +kernel
theorem dX12_look_14 : decode cX12_look 14 = .ok (.sipush 999, 3) := by decide +kernel
theorem dX12_look_17 : decode cX12_look 17 = .ok (.invokestatic 334, 3) := by decide +kernel
theorem dX12_look_20 : decode cX12_look 20 = .ok (.ifCond .ne 5, 3) := by decide +kernel
theorem dX12_look_23 : decode cX12_look 23 = .ok (.iconst (-1), 1) := by decide +kernel
theorem dX12_look_24 : decode cX12_look 24 = .ok (.ireturn, 1) := by decide +kernel
theorem dX12_look_25 : decode cX12_look 25 = .ok (.aload_n 0, 1) := by decide +kernel
theorem dX12_look_26 : decode cX12_look 26 = .ok (.iload_n 1, 1) := by decide +kernel
theorem dX12_look_27 : decode cX12_look 27 = .ok (.invokevirtual 468, 3) := by decide +kernel
theorem dX12_look_30 : decode cX12_look 30 = .ok (.istore_n 3, 1) := by decide +kernel
theorem dX12_look_31 : decode cX12_look 31 = .ok (.bipush (-2), 2) := by decide +kernel
theorem dX12_look_33 : decode cX12_look 33 = .ok (.istore 4, 2) := by decide +kernel
theorem dX12_look_35 : decode cX12_look 35 = .ok (.iconst 0, 1) := by decide +kernel
theorem dX12_look_36 : decode cX12_look 36 = .ok (.istore 5, 2) := by decide +kernel
theorem dX12_look_38 : decode cX12_look 38 = .ok (.iconst 0, 1) := by decide +kernel
theorem dX12_look_39 : decode cX12_look 39 = .ok (.istore 6, 2) := by decide +kernel
theorem dX12_look_41 : decode cX12_look 41 = .ok (.iload 6, 2) := by decide +kernel
theorem dX12_look_43 : decode cX12_look 43 = .ok (.aload_n 0, 1) := by decide +kernel
theorem dX12_look_44 : decode cX12_look 44 = .ok (.getfield 61, 3) := by decide +kernel
theorem dX12_look_47 : decode cX12_look 47 = .ok (.aload_n 0, 1) := by decide +kernel
theorem dX12_look_48 : decode cX12_look 48 = .ok (.getfield 251, 3) := by decide +kernel
theorem dX12_look_51 : decode cX12_look 51 = .ok (.iaload, 1) := by decide +kernel
theorem dX12_look_52 : decode cX12_look 52 = .ok (.if_icmp .ge 125, 3) := by decide +kernel
theorem dX12_look_55 : decode cX12_look 55 = .ok (.iload_n 3, 1) := by decide +kernel
theorem dX12_look_56 : decode cX12_look 56 = .ok (.ifCond .eq 121, 3) := by decide +kernel
theorem dX12_look_59 : decode cX12_look 59 = .ok (.aload_n 0, 1) := by decide +kernel
theorem dX12_look_60 : decode cX12_look 60 = .ok (.iload 6, 2) := by decide +kernel
theorem dX12_look_62 : decode cX12_look 62 = .ok (.invokevirtual 420, 3) := by decide +kernel
theorem dX12_look_65 : decode cX12_look 65 = .ok (.ifCond .ne 6, 3) := by decide +kernel
theorem dX12_look_68 : decode cX12_look 68 = .ok (.goto 103, 3) := by decide +kernel
theorem dX12_look_71 : decode cX12_look 71 = .ok (.iconst 0, 1) := by decide +kernel
theorem dX12_look_72 : decode cX12_look 72 = .ok (.istore 7, 2) := by decide +kernel
theorem dX12_look_74 : decode cX12_look 74 = .ok (.iconst 0, 1) := by decide +kernel
theorem dX12_look_75 : decode cX12_look 75 = .ok (.istore 8, 2) := by decide +kernel
theorem dX12_look_77 : decode cX12_look 77 = .ok (.iload 8, 2) := by decide +kernel
theorem dX12_look_79 : decode cX12_look 79 = .ok (.aload_n 0, 1) := by decide +kernel
theorem dX12_look_80 : decode cX12_look 80 = .ok (.getfield 73, 3) := by decide +kernel
theorem dX12_look_83 : decode cX12_look 83 = .ok (.aload_n 0, 1) := by decide +kernel
theorem dX12_look_84 : decode cX12_look 84 = .ok (.getfield 251, 3) := by decide +kernel
theorem dX12_look_87 : decode cX12_look 87 = .ok (.iaload, 1) := by decide +kernel
theorem dX12_look_88 : decode cX12_look 88 = .ok (.if_icmp .ge 34, 3) := by decide +kernel
theorem dX12_look_91 : decode cX12_look 91 = .ok (.iload_n 3, 1) := by decide +kernel
theorem dX12_look_92 : decode cX12_look 92 = .ok (.iload 8, 2) := by decide +kernel
theorem dX12_look_94 : decode cX12_look 94 = .ok (.ishr, 1) := by decide +kernel
theorem dX12_look_95 : decode cX12_look 95 = .ok (.iconst 1, 1) := by decide +kernel
theorem dX12_look_96 : decode cX12_look 96 = .ok (.iand, 1) := by decide +kernel
theorem dX12_look_97 : decode cX12_look 97 = .ok (.iconst 1, 1) := by decide +kernel
theorem dX12_look_98 : decode cX12_look 98 = .ok (.if_icmp .ne 18, 3) := by decide +kernel
theorem dX12_look_101 : decode cX12_look 101 = .ok (.aload_n 0, 1) := by decide +kernel
theorem dX12_look_102 : decode cX12_look 102 = .ok (.iload 6, 2) := by decide +kernel
theorem dX12_look_104 : decode cX12_look 104 = .ok (.iload 8, 2) := by decide +kernel
theorem dX12_look_106 : decode cX12_look 106 = .ok (.invokevirtual 465, 3) := by decide +kernel
theorem dX12_look_109 : decode cX12_look 109 = .ok (.iload_n 2, 1) := by decide +kernel
theorem dX12_look_110 : decode cX12_look 110 = .ok (.if_icmp .lt 6, 3) := by decide +kernel
theorem dX12_look_113 : decode cX12_look 113 = .ok (.iinc 7 1, 3) := by decide +kernel
theorem dX12_look_116 : decode cX12_look 116 = .ok (.iinc 8 1, 3) := by decide +kernel
theorem dX12_look_119 : decode cX12_look 119 = .ok (.goto (-42), 3) := by decide +kernel
theorem dX12_look_122 : decode cX12_look 122 = .ok (.iload 7, 2) := by decide +kernel
theorem dX12_look_124 : decode cX12_look 124 = .ok (.iload_n 3, 1) := by decide +kernel
theorem dX12_look_125 : decode cX12_look 125 = .ok (.invokestatic 435, 3) := by decide +kernel
theorem dX12_look_128 : decode cX12_look 128 = .ok (.iload 7, 2) := by decide +kernel
theorem dX12_look_130 : decode cX12_look 130 = .ok (.isub, 1) := by decide +kernel
theorem dX12_look_131 : decode cX12_look 131 = .ok (.if_icmp .le 8, 3) := by decide +kernel
theorem dX12_look_134 : decode cX12_look 134 = .ok (.iload 7, 2) := by decide +kernel
theorem dX12_look_136 : decode cX12_look 136 = .ok (.goto 10, 3) := by decide +kernel
theorem dX12_look_139 : decode cX12_look 139 = .ok (.iload_n 3, 1) := by decide +kernel
theorem dX12_look_140 : decode cX12_look 140 = .ok (.invokestatic 435, 3) := by decide +kernel
theorem dX12_look_143 : decode cX12_look 143 = .ok (.iload 7, 2) := by decide +kernel
theorem dX12_look_145 : decode cX12_look 145 = .ok (.isub, 1) := by decide +kernel
theorem dX12_look_146 : decode cX12_look 146 = .ok (.istore 8, 2) := by decide +kernel
theorem dX12_look_148 : decode cX12_look 148 = .ok (.iload 4, 2) := by decide +kernel
theorem dX12_look_150 : decode cX12_look 150 = .ok (.ifCond .lt 13, 3) := by decide +kernel
theorem dX12_look_153 : decode cX12_look 153 = .ok (.iload 8, 2) := by decide +kernel
theorem dX12_look_155 : decode cX12_look 155 = .ok (.iload 5, 2) := by decide +kernel
theorem dX12_look_157 : decode cX12_look 157 = .ok (.if_icmp .lt 6, 3) := by decide +kernel
theorem dX12_look_160 : decode cX12_look 160 = .ok (.goto 11, 3) := by decide +kernel
theorem dX12_look_163 : decode cX12_look 163 = .ok (.iload 6, 2) := by decide +kernel
theorem dX12_look_165 : decode cX12_look 165 = .ok (.istore 4, 2) := by decide +kernel
theorem dX12_look_167 : decode cX12_look 167 = .ok (.iload 8, 2) := by decide +kernel
theorem dX12_look_169 : decode cX12_look 169 = .ok (.istore 5, 2) := by decide +kernel
theorem dX12_look_171 : decode cX12_look 171 = .ok (.iinc 6 1, 3) := by decide +kernel
theorem dX12_look_174 : decode cX12_look 174 = .ok (.goto (-133), 3) := by decide +kernel
theorem dX12_look_177 : decode cX12_look 177 = .ok (.iload 4, 2) := by decide +kernel
theorem dX12_look_179 : decode cX12_look 179 = .ok (.ireturn, 1) := by decide +kernel
theorem dX12_hold_0 : decode cX12_hold 0 = .ok (.iload_n 1, 1) := by decide +kernel
theorem dX12_hold_1 : decode cX12_hold 1 = .ok (.iconst 0, 1) := by decide +kernel
theorem dX12_hold_2 : decode cX12_hold 2 = .ok (.iconst 2, 1) := by decide +kernel
theorem dX12_hold_3 : decode cX12_hold 3 = .ok (.invokestatic 334, 3) := by decide +kernel
theorem dX12_hold_6 : decode cX12_hold 6 = .ok (.ifCond .ne 5, 3) := by decide +kernel
theorem dX12_hold_9 : decode cX12_hold 9 = .ok (.iconst 0, 1) := by decide +kernel
theorem dX12_hold_10 : decode cX12_hold 10 = .ok (.ireturn, 1) := by decide +kernel
theorem dX12_hold_11 : decode cX12_hold 11 = .ok (.aload_n 0, 1) := by decide +kernel
theorem dX12_hold_12 : decode cX12_hold 12 = .ok (.getfield 164, 3) := by decide +kernel
theorem dX12_hold_15 : decode cX12_hold 15 = .ok (.iload_n 1, 1) := by decide +kernel
theorem dX12_hold_16 : decode cX12_hold 16 = .ok (.iconst 1, 1) := by decide +kernel
theorem dX12_hold_17 : decode cX12_hold 17 = .ok (.bastore, 1) := by decide +kernel
theorem dX12_hold_18 : decode cX12_hold 18 = .ok (.iconst 0, 1) := by decide +kernel
theorem dX12_hold_19 : decode cX12_hold 19 = .ok (.istore_n 2, 1) := by decide +kernel
theorem dX12_hold_20 : decode cX12_hold 20 = .ok (.iload_n 2, 1) := by decide +kernel
theorem dX12_hold_21 : decode cX12_hold 21 = .ok (.bipush 48, 2) := by decide +kernel
theorem dX12_hold_23 : decode cX12_hold 23 = .ok (.if_icmp .ge 26, 3) := by decide +kernel
theorem dX12_hold_26 : decode cX12_hold 26 = .ok (.aload_n 0, 1) := by decide +kernel
theorem dX12_hold_27 : decode cX12_hold 27 = .ok (.getfield 167, 3) := by decide +kernel
theorem dX12_hold_30 : decode cX12_hold 30 = .ok (.bipush 48, 2) := by decide +kernel
theorem dX12_hold_32 : decode cX12_hold 32 = .ok (.iload_n 1, 1) := by decide +kernel
theorem dX12_hold_33 : decode cX12_hold 33 = .ok (.imul, 1) := by decide +kernel
theorem dX12_hold_34 : decode cX12_hold 34 = .ok (.iload_n 2, 1) := by decide +kernel
theorem dX12_hold_35 : decode cX12_hold 35 = .ok (.iadd, 1) := by decide +kernel
theorem dX12_hold_36 : decode cX12_hold 36 = .ok (.aload_n 0, 1) := by decide +kernel
theorem dX12_hold_37 : decode cX12_hold 37 = .ok (.getfield 125, 3) := by decide +kernel
theorem dX12_hold_40 : decode cX12_hold 40 = .ok (.iload_n 2, 1) := by decide +kernel
theorem dX12_hold_41 : decode cX12_hold 41 = .ok (.iaload, 1) := by decide +kernel
theorem dX12_hold_42 : decode cX12_hold 42 = .ok (.iastore, 1) := by decide +kernel
theorem dX12_hold_43 : decode cX12_hold 43 = .ok (.iinc 2 1, 3) := by decide +kernel
theorem dX12_hold_46 : decode cX12_hold 46 = .ok (.goto (-26), 3) := by decide +kernel
theorem dX12_hold_49 : decode cX12_hold 49 = .ok (.iconst 1, 1) := by decide +kernel
theorem dX12_hold_50 : decode cX12_hold 50 = .ok (.ireturn, 1) := by decide +kernel
theorem dX12_restore_0 : decode cX12_restore 0 = .ok (.iload_n 1, 1) := by decide +kernel
theorem dX12_restore_1 : decode cX12_restore 1 = .ok (.iconst 0, 1) := by decide +kernel
theorem dX12_restore_2 : decode cX12_restore 2 = .ok (.iconst 2, 1) := by decide +kernel
theorem dX12_restore_3 : decode cX12_restore 3 = .ok (.invokestatic 334, 3) := by decide +kernel
theorem dX12_restore_6 : decode cX12_restore 6 = .ok (.ifCond .eq 12, 3) := by decide +kernel
theorem dX12_restore_9 : decode cX12_restore 9 = .ok (.aload_n 0, 1) := by decide +kernel
theorem dX12_restore_10 : decode cX12_restore 10 = .ok (.getfield 164, 3) := by decide +kernel
theorem dX12_restore_13 : decode cX12_restore 13 = .ok (.iload_n 1, 1) := by decide +kernel
theorem dX12_restore_14 : decode cX12_restore 14 = .ok (.baload, 1) := by decide +kernel
theorem dX12_restore_15 : decode cX12_restore 15 = .ok (.ifCond .ne 5, 3) := by decide +kernel
theorem dX12_restore_18 : decode cX12_restore 18 = .ok (.iconst 0, 1) := by decide +kernel
theorem dX12_restore_19 : decode cX12_restore 19 = .ok (.ireturn, 1) := by decide +kernel
theorem dX12_restore_20 : decode cX12_restore 20 = .ok (.iconst 0, 1) := by decide +kernel
theorem dX12_restore_21 : decode cX12_restore 21 = .ok (.istore_n 2, 1) := by decide +kernel
theorem dX12_restore_22 : decode cX12_restore 22 = .ok (.iload_n 2, 1) := by decide +kernel
theorem dX12_restore_23 : decode cX12_restore 23 = .ok (.bipush 48, 2) := by decide +kernel
theorem dX12_restore_25 : decode cX12_restore 25 = .ok (.if_icmp .ge 26, 3) := by decide +kernel
theorem dX12_restore_28 : decode cX12_restore 28 = .ok (.aload_n 0, 1) := by decide +kernel
theorem dX12_restore_29 : decode cX12_restore 29 = .ok (.getfield 125, 3) := by decide +kernel
theorem dX12_restore_32 : decode cX12_restore 32 = .ok (.iload_n 2, 1) := by decide +kernel
theorem dX12_restore_33 : decode cX12_restore 33 = .ok (.aload_n 0, 1) := by decide +kernel
theorem dX12_restore_34 : decode cX12_restore 34 = .ok (.getfield 167, 3) := by decide +kernel
theorem dX12_restore_37 : decode cX12_restore 37 = .ok (.bipush 48, 2) := by decide +kernel
theorem dX12_restore_39 : decode cX12_restore 39 = .ok (.iload_n 1, 1) := by decide +kernel
theorem dX12_restore_40 : decode cX12_restore 40 = .ok (.imul, 1) := by decide +kernel
theorem dX12_restore_41 : decode cX12_restore 41 = .ok (.iload_n 2, 1) := by decide +kernel
theorem dX12_restore_42 : decode cX12_restore 42 = .ok (.iadd, 1) := by decide +kernel
theorem dX12_restore_43 : decode cX12_restore 43 = .ok (.iaload, 1) := by decide +kernel
theorem dX12_restore_44 : decode cX12_restore 44 = .ok (.iastore, 1) := by decide +kernel
theorem dX12_restore_45 : decode cX12_restore 45 = .ok (.iinc 2 1, 3) := by decide +kernel
theorem dX12_restore_48 : decode cX12_restore 48 = .ok (.goto (-26), 3) := by decide +kernel
theorem dX12_restore_51 : decode cX12_restore 51 = .ok (.aload_n 0, 1) := by decide +kernel
theorem dX12_restore_52 : decode cX12_restore 52 = .ok (.iconst 0, 1) := by decide +kernel
theorem dX12_restore_53 : decode cX12_restore 53 = .ok (.putfield 269, 3) := by decide +kernel
theorem dX12_restore_56 : decode cX12_restore 56 = .ok (.iconst 1, 1) := by decide +kernel
theorem dX12_restore_57 : decode cX12_restore 57 = .ok (.ireturn, 1) := by decide +kernel
theorem dX12_sumNow_0 : decode cX12_sumNow 0 = .ok (.iconst 0, 1) := by decide +kernel
theorem dX12_sumNow_1 : decode cX12_sumNow 1 = .ok (.istore_n 3, 1) := by decide +kernel
theorem dX12_sumNow_2 : decode cX12_sumNow 2 = .ok (.iload_n 1, 1) := by decide +kernel
theorem dX12_sumNow_3 : decode cX12_sumNow 3 = .ok (.istore 4, 2) := by decide +kernel
theorem dX12_sumNow_5 : decode cX12_sumNow 5 = .ok (.iload 4, 2) := by decide +kernel
theorem dX12_sumNow_7 : decode cX12_sumNow 7 = .ok (.iload_n 1, 1) := by decide +kernel
theorem dX12_sumNow_8 : decode cX12_sumNow 8 = .ok (.iload_n 2, 1) := by decide +kernel
theorem dX12_sumNow_9 : decode cX12_sumNow 9 = .ok (.iadd, 1) := by decide +kernel
theorem dX12_sumNow_10 : decode cX12_sumNow 10 = .ok (.if_icmp .ge 19, 3) := by decide +kernel
theorem dX12_sumNow_13 : decode cX12_sumNow 13 = .ok (.iload_n 3, 1) := by decide +kernel
theorem dX12_sumNow_14 : decode cX12_sumNow 14 = .ok (.aload_n 0, 1) := by decide +kernel
theorem dX12_sumNow_15 : decode cX12_sumNow 15 = .ok (.getfield 125, 3) := by decide +kernel
theorem dX12_sumNow_18 : decode cX12_sumNow 18 = .ok (.iload 4, 2) := by decide +kernel
theorem dX12_sumNow_20 : decode cX12_sumNow 20 = .ok (.iaload, 1) := by decide +kernel
theorem dX12_sumNow_21 : decode cX12_sumNow 21 = .ok (.iadd, 1) := by decide +kernel
theorem dX12_sumNow_22 : decode cX12_sumNow 22 = .ok (.istore_n 3, 1) := by decide +kernel
theorem dX12_sumNow_23 : decode cX12_sumNow 23 = .ok (.iinc 4 1, 3) := by decide +kernel
theorem dX12_sumNow_26 : decode cX12_sumNow 26 = .ok (.goto (-21), 3) := by decide +kernel
theorem dX12_sumNow_29 : decode cX12_sumNow 29 = .ok (.iload_n 3, 1) := by decide +kernel
theorem dX12_sumNow_30 : decode cX12_sumNow 30 = .ok (.ireturn, 1) := by decide +kernel
theorem dX12_count_0 : decode cX12_count 0 = .ok (.aload_n 0, 1) := by decide +kernel
theorem dX12_count_1 : decode cX12_count 1 = .ok (.invokevirtual 347, 3) := by decide +kernel
theorem dX12_count_4 : decode cX12_count 4 = .ok (.iconst 0, 1) := by decide +kernel
theorem dX12_count_5 : decode cX12_count 5 = .ok (.istore_n 2, 1) := by decide +kernel
theorem dX12_count_6 : decode cX12_count 6 = .ok (.iload_n 1, 1) := by decide +kernel
theorem dX12_count_7 : decode cX12_count 7 = .ok (.tableswitch 383 0 20 #[97, 107, 117, 127, 137, 145, 153, 158, 163, 168, 173, 178, 223, 236, 245, 253, 290, 299, 307, 344, 352], 97) := by decide +kernel
theorem dX12_count_104 : decode cX12_count 104 = .ok (.aload_n 0, 1) := by decide +kernel
theorem dX12_count_105 : decode cX12_count 105 = .ok (.getfield 46, 3) := by decide +kernel
theorem dX12_count_108 : decode cX12_count 108 = .ok (.aload_n 0, 1) := by decide +kernel
theorem dX12_count_109 : decode cX12_count 109 = .ok (.getfield 251, 3) := by decide +kernel
theorem dX12_count_112 : decode cX12_count 112 = .ok (.iaload, 1) := by decide +kernel
theorem dX12_count_113 : decode cX12_count 113 = .ok (.ireturn, 1) := by decide +kernel
theorem dX12_count_114 : decode cX12_count 114 = .ok (.aload_n 0, 1) := by decide +kernel
theorem dX12_count_115 : decode cX12_count 115 = .ok (.getfield 49, 3) := by decide +kernel
theorem dX12_count_118 : decode cX12_count 118 = .ok (.aload_n 0, 1) := by decide +kernel
theorem dX12_count_119 : decode cX12_count 119 = .ok (.getfield 251, 3) := by decide +kernel
theorem dX12_count_122 : decode cX12_count 122 = .ok (.iaload, 1) := by decide +kernel
theorem dX12_count_123 : decode cX12_count 123 = .ok (.ireturn, 1) := by decide +kernel
theorem dX12_count_124 : decode cX12_count 124 = .ok (.aload_n 0, 1) := by decide +kernel
theorem dX12_count_125 : decode cX12_count 125 = .ok (.getfield 61, 3) := by decide +kernel
theorem dX12_count_128 : decode cX12_count 128 = .ok (.aload_n 0, 1) := by decide +kernel
theorem dX12_count_129 : decode cX12_count 129 = .ok (.getfield 251, 3) := by decide +kernel
theorem dX12_count_132 : decode cX12_count 132 = .ok (.iaload, 1) := by decide +kernel
theorem dX12_count_133 : decode cX12_count 133 = .ok (.ireturn, 1) := by decide +kernel
theorem dX12_count_134 : decode cX12_count 134 = .ok (.aload_n 0, 1) := by decide +kernel
theorem dX12_count_135 : decode cX12_count 135 = .ok (.getfield 73, 3) := by decide +kernel
theorem dX12_count_138 : decode cX12_count 138 = .ok (.aload_n 0, 1) := by decide +kernel
theorem dX12_count_139 : decode cX12_count 139 = .ok (.getfield 251, 3) := by decide +kernel
theorem dX12_count_142 : decode cX12_count 142 = .ok (.iaload, 1) := by decide +kernel
theorem dX12_count_143 : decode cX12_count 143 = .ok (.ireturn, 1) := by decide +kernel
theorem dX12_count_144 : decode cX12_count 144 = .ok (.aload_n 0, 1) := by decide +kernel
theorem dX12_count_145 : decode cX12_count 145 = .ok (.getfield 128, 3) := by decide +kernel
theorem dX12_count_148 : decode cX12_count 148 = .ok (.bipush 47, 2) := by decide +kernel
theorem dX12_count_150 : decode cX12_count 150 = .ok (.iaload, 1) := by decide +kernel
theorem dX12_count_151 : decode cX12_count 151 = .ok (.ireturn, 1) := by decide +kernel
theorem dX12_count_152 : decode cX12_count 152 = .ok (.aload_n 0, 1) := by decide +kernel
theorem dX12_count_153 : decode cX12_count 153 = .ok (.getfield 128, 3) := by decide +kernel
theorem dX12_count_156 : decode cX12_count 156 = .ok (.bipush 46, 2) := by decide +kernel
theorem dX12_count_158 : decode cX12_count 158 = .ok (.iaload, 1) := by decide +kernel
theorem dX12_count_159 : decode cX12_count 159 = .ok (.ireturn, 1) := by decide +kernel
theorem dX12_count_160 : decode cX12_count 160 = .ok (.aload_n 0, 1) := by decide +kernel
theorem dX12_count_161 : decode cX12_count 161 = .ok (.invokevirtual 432, 3) := by decide +kernel
theorem dX12_count_164 : decode cX12_count 164 = .ok (.ireturn, 1) := by decide +kernel
theorem dX12_count_165 : decode cX12_count 165 = .ok (.aload_n 0, 1) := by decide +kernel
theorem dX12_count_166 : decode cX12_count 166 = .ok (.invokevirtual 462, 3) := by decide +kernel
theorem dX12_count_169 : decode cX12_count 169 = .ok (.ireturn, 1) := by decide +kernel
theorem dX12_count_170 : decode cX12_count 170 = .ok (.aload_n 0, 1) := by decide +kernel
theorem dX12_count_171 : decode cX12_count 171 = .ok (.getfield 184, 3) := by decide +kernel
theorem dX12_count_174 : decode cX12_count 174 = .ok (.ireturn, 1) := by decide +kernel
theorem dX12_count_175 : decode cX12_count 175 = .ok (.aload_n 0, 1) := by decide +kernel
theorem dX12_count_176 : decode cX12_count 176 = .ok (.getfield 269, 3) := by decide +kernel
theorem dX12_count_179 : decode cX12_count 179 = .ok (.ireturn, 1) := by decide +kernel
theorem dX12_count_180 : decode cX12_count 180 = .ok (.aload_n 0, 1) := by decide +kernel
theorem dX12_count_181 : decode cX12_count 181 = .ok (.getfield 272, 3) := by decide +kernel
theorem dX12_count_184 : decode cX12_count 184 = .ok (.ireturn, 1) := by decide +kernel
theorem dX12_count_185 : decode cX12_count 185 = .ok (.aload_n 0, 1) := by decide +kernel
theorem dX12_count_186 : decode cX12_count 186 = .ok (.getfield 164, 3) := by decide +kernel
theorem dX12_count_189 : decode cX12_count 189 = .ok (.iconst 0, 1) := by decide +kernel
theorem dX12_count_190 : decode cX12_count 190 = .ok (.baload, 1) := by decide +kernel
theorem dX12_count_191 : decode cX12_count 191 = .ok (.ifCond .eq 7, 3) := by decide +kernel
theorem dX12_count_194 : decode cX12_count 194 = .ok (.iconst 1, 1) := by decide +kernel
theorem dX12_count_195 : decode cX12_count 195 = .ok (.goto 4, 3) := by decide +kernel
theorem dX12_count_198 : decode cX12_count 198 = .ok (.iconst 0, 1) := by decide +kernel
theorem dX12_count_199 : decode cX12_count 199 = .ok (.aload_n 0, 1) := by decide +kernel
theorem dX12_count_200 : decode cX12_count 200 = .ok (.getfield 164, 3) := by decide +kernel
theorem dX12_count_203 : decode cX12_count 203 = .ok (.iconst 1, 1) := by decide +kernel
theorem dX12_count_204 : decode cX12_count 204 = .ok (.baload, 1) := by decide +kernel
theorem dX12_count_205 : decode cX12_count 205 = .ok (.ifCond .eq 7, 3) := by decide +kernel
theorem dX12_count_208 : decode cX12_count 208 = .ok (.iconst 1, 1) := by decide +kernel
theorem dX12_count_209 : decode cX12_count 209 = .ok (.goto 4, 3) := by decide +kernel
theorem dX12_count_212 : decode cX12_count 212 = .ok (.iconst 0, 1) := by decide +kernel
theorem dX12_count_213 : decode cX12_count 213 = .ok (.iadd, 1) := by decide +kernel
theorem dX12_count_214 : decode cX12_count 214 = .ok (.aload_n 0, 1) := by decide +kernel
theorem dX12_count_215 : decode cX12_count 215 = .ok (.getfield 164, 3) := by decide +kernel
theorem dX12_count_218 : decode cX12_count 218 = .ok (.iconst 2, 1) := by decide +kernel
theorem dX12_count_219 : decode cX12_count 219 = .ok (.baload, 1) := by decide +kernel
theorem dX12_count_220 : decode cX12_count 220 = .ok (.ifCond .eq 7, 3) := by decide +kernel
theorem dX12_count_223 : decode cX12_count 223 = .ok (.iconst 1, 1) := by decide +kernel
theorem dX12_count_224 : decode cX12_count 224 = .ok (.goto 4, 3) := by decide +kernel
theorem dX12_count_227 : decode cX12_count 227 = .ok (.iconst 0, 1) := by decide +kernel
theorem dX12_count_228 : decode cX12_count 228 = .ok (.iadd, 1) := by decide +kernel
theorem dX12_count_229 : decode cX12_count 229 = .ok (.ireturn, 1) := by decide +kernel
theorem dX12_count_230 : decode cX12_count 230 = .ok (.aload_n 0, 1) := by decide +kernel
theorem dX12_count_231 : decode cX12_count 231 = .ok (.invokevirtual 382, 3) := by decide +kernel
theorem dX12_count_234 : decode cX12_count 234 = .ok (.ifCond .eq 7, 3) := by decide +kernel
theorem dX12_count_237 : decode cX12_count 237 = .ok (.iconst 1, 1) := by decide +kernel
theorem dX12_count_238 : decode cX12_count 238 = .ok (.goto 4, 3) := by decide +kernel
theorem dX12_count_241 : decode cX12_count 241 = .ok (.iconst 0, 1) := by decide +kernel
theorem dX12_count_242 : decode cX12_count 242 = .ok (.ireturn, 1) := by decide +kernel
theorem dX12_count_243 : decode cX12_count 243 = .ok (.aload_n 0, 1) := by decide +kernel
theorem dX12_count_244 : decode cX12_count 244 = .ok (.bipush 6, 2) := by decide +kernel
theorem dX12_count_246 : decode cX12_count 246 = .ok (.bipush 6, 2) := by decide +kernel
theorem dX12_count_248 : decode cX12_count 248 = .ok (.invokevirtual 471, 3) := by decide +kernel
theorem dX12_count_251 : decode cX12_count 251 = .ok (.ireturn, 1) := by decide +kernel
theorem dX12_count_252 : decode cX12_count 252 = .ok (.aload_n 0, 1) := by decide +kernel
theorem dX12_count_253 : decode cX12_count 253 = .ok (.bipush 36, 2) := by decide +kernel
theorem dX12_count_255 : decode cX12_count 255 = .ok (.iconst 5, 1) := by decide +kernel
theorem dX12_count_256 : decode cX12_count 256 = .ok (.invokevirtual 471, 3) := by decide +kernel
theorem dX12_count_259 : decode cX12_count 259 = .ok (.ireturn, 1) := by decide +kernel
theorem dX12_count_260 : decode cX12_count 260 = .ok (.iconst 0, 1) := by decide +kernel
theorem dX12_count_261 : decode cX12_count 261 = .ok (.istore_n 3, 1) := by decide +kernel
theorem dX12_count_262 : decode cX12_count 262 = .ok (.iload_n 3, 1) := by decide +kernel
theorem dX12_count_263 : decode cX12_count 263 = .ok (.aload_n 0, 1) := by decide +kernel
theorem dX12_count_264 : decode cX12_count 264 = .ok (.getfield 46, 3) := by decide +kernel
theorem dX12_count_267 : decode cX12_count 267 = .ok (.aload_n 0, 1) := by decide +kernel
theorem dX12_count_268 : decode cX12_count 268 = .ok (.getfield 251, 3) := by decide +kernel
theorem dX12_count_271 : decode cX12_count 271 = .ok (.iaload, 1) := by decide +kernel
theorem dX12_count_272 : decode cX12_count 272 = .ok (.if_icmp .ge 23, 3) := by decide +kernel
theorem dX12_count_275 : decode cX12_count 275 = .ok (.aload_n 0, 1) := by decide +kernel
theorem dX12_count_276 : decode cX12_count 276 = .ok (.iload_n 3, 1) := by decide +kernel
theorem dX12_count_277 : decode cX12_count 277 = .ok (.invokevirtual 395, 3) := by decide +kernel
theorem dX12_count_280 : decode cX12_count 280 = .ok (.ifCond .eq 9, 3) := by decide +kernel
theorem dX12_count_283 : decode cX12_count 283 = .ok (.iload_n 2, 1) := by decide +kernel
theorem dX12_count_284 : decode cX12_count 284 = .ok (.iconst 1, 1) := by decide +kernel
theorem dX12_count_285 : decode cX12_count 285 = .ok (.iload_n 3, 1) := by decide +kernel
theorem dX12_count_286 : decode cX12_count 286 = .ok (.ishl, 1) := by decide +kernel
theorem dX12_count_287 : decode cX12_count 287 = .ok (.ior, 1) := by decide +kernel
theorem dX12_count_288 : decode cX12_count 288 = .ok (.istore_n 2, 1) := by decide +kernel
theorem dX12_count_289 : decode cX12_count 289 = .ok (.iinc 3 1, 3) := by decide +kernel
theorem dX12_count_292 : decode cX12_count 292 = .ok (.goto (-30), 3) := by decide +kernel
theorem dX12_count_295 : decode cX12_count 295 = .ok (.iload_n 2, 1) := by decide +kernel
theorem dX12_count_296 : decode cX12_count 296 = .ok (.ireturn, 1) := by decide +kernel
theorem dX12_count_297 : decode cX12_count 297 = .ok (.aload_n 0, 1) := by decide +kernel
theorem dX12_count_298 : decode cX12_count 298 = .ok (.bipush 18, 2) := by decide +kernel
theorem dX12_count_300 : decode cX12_count 300 = .ok (.bipush 6, 2) := by decide +kernel
theorem dX12_count_302 : decode cX12_count 302 = .ok (.invokevirtual 471, 3) := by decide +kernel
theorem dX12_count_305 : decode cX12_count 305 = .ok (.ireturn, 1) := by decide +kernel
theorem dX12_count_306 : decode cX12_count 306 = .ok (.aload_n 0, 1) := by decide +kernel
theorem dX12_count_307 : decode cX12_count 307 = .ok (.invokevirtual 432, 3) := by decide +kernel
theorem dX12_count_310 : decode cX12_count 310 = .ok (.invokestatic 435, 3) := by decide +kernel
theorem dX12_count_313 : decode cX12_count 313 = .ok (.ireturn, 1) := by decide +kernel
theorem dX12_count_314 : decode cX12_count 314 = .ok (.iconst 0, 1) := by decide +kernel
theorem dX12_count_315 : decode cX12_count 315 = .ok (.istore_n 3, 1) := by decide +kernel
theorem dX12_count_316 : decode cX12_count 316 = .ok (.iload_n 3, 1) := by decide +kernel
theorem dX12_count_317 : decode cX12_count 317 = .ok (.aload_n 0, 1) := by decide +kernel
theorem dX12_count_318 : decode cX12_count 318 = .ok (.getfield 61, 3) := by decide +kernel
theorem dX12_count_321 : decode cX12_count 321 = .ok (.aload_n 0, 1) := by decide +kernel
theorem dX12_count_322 : decode cX12_count 322 = .ok (.getfield 251, 3) := by decide +kernel
theorem dX12_count_325 : decode cX12_count 325 = .ok (.iaload, 1) := by decide +kernel
theorem dX12_count_326 : decode cX12_count 326 = .ok (.if_icmp .ge 23, 3) := by decide +kernel
theorem dX12_count_329 : decode cX12_count 329 = .ok (.iload_n 2, 1) := by decide +kernel
theorem dX12_count_330 : decode cX12_count 330 = .ok (.aload_n 0, 1) := by decide +kernel
theorem dX12_count_331 : decode cX12_count 331 = .ok (.getfield 128, 3) := by decide +kernel
theorem dX12_count_334 : decode cX12_count 334 = .ok (.bipush 30, 2) := by decide +kernel
theorem dX12_count_336 : decode cX12_count 336 = .ok (.iload_n 3, 1) := by decide +kernel
theorem dX12_count_337 : decode cX12_count 337 = .ok (.iadd, 1) := by decide +kernel
theorem dX12_count_338 : decode cX12_count 338 = .ok (.iaload, 1) := by decide +kernel
theorem dX12_count_339 : decode cX12_count 339 = .ok (.iload_n 3, 1) := by decide +kernel
theorem dX12_count_340 : decode cX12_count 340 = .ok (.ishl, 1) := by decide +kernel
theorem dX12_count_341 : decode cX12_count 341 = .ok (.ior, 1) := by decide +kernel
theorem dX12_count_342 : decode cX12_count 342 = .ok (.istore_n 2, 1) := by decide +kernel
theorem dX12_count_343 : decode cX12_count 343 = .ok (.iinc 3 1, 3) := by decide +kernel
theorem dX12_count_346 : decode cX12_count 346 = .ok (.goto (-30), 3) := by decide +kernel
theorem dX12_count_349 : decode cX12_count 349 = .ok (.iload_n 2, 1) := by decide +kernel
theorem dX12_count_350 : decode cX12_count 350 = .ok (.ireturn, 1) := by decide +kernel
theorem dX12_count_351 : decode cX12_count 351 = .ok (.aload_n 0, 1) := by decide +kernel
theorem dX12_count_352 : decode cX12_count 352 = .ok (.invokevirtual 462, 3) := by decide +kernel
theorem dX12_count_355 : decode cX12_count 355 = .ok (.invokestatic 435, 3) := by decide +kernel
theorem dX12_count_358 : decode cX12_count 358 = .ok (.ireturn, 1) := by decide +kernel
theorem dX12_count_359 : decode cX12_count 359 = .ok (.iconst 0, 1) := by decide +kernel
theorem dX12_count_360 : decode cX12_count 360 = .ok (.istore_n 3, 1) := by decide +kernel
theorem dX12_count_361 : decode cX12_count 361 = .ok (.iload_n 3, 1) := by decide +kernel
theorem dX12_count_362 : decode cX12_count 362 = .ok (.aload_n 0, 1) := by decide +kernel
theorem dX12_count_363 : decode cX12_count 363 = .ok (.getfield 49, 3) := by decide +kernel
theorem dX12_count_366 : decode cX12_count 366 = .ok (.aload_n 0, 1) := by decide +kernel
theorem dX12_count_367 : decode cX12_count 367 = .ok (.getfield 251, 3) := by decide +kernel
theorem dX12_count_370 : decode cX12_count 370 = .ok (.iaload, 1) := by decide +kernel
theorem dX12_count_371 : decode cX12_count 371 = .ok (.if_icmp .ge 17, 3) := by decide +kernel
theorem dX12_count_374 : decode cX12_count 374 = .ok (.iload_n 2, 1) := by decide +kernel
theorem dX12_count_375 : decode cX12_count 375 = .ok (.aload_n 0, 1) := by decide +kernel
theorem dX12_count_376 : decode cX12_count 376 = .ok (.iload_n 3, 1) := by decide +kernel
theorem dX12_count_377 : decode cX12_count 377 = .ok (.invokevirtual 408, 3) := by decide +kernel
theorem dX12_count_380 : decode cX12_count 380 = .ok (.iadd, 1) := by decide +kernel
theorem dX12_count_381 : decode cX12_count 381 = .ok (.istore_n 2, 1) := by decide +kernel
theorem dX12_count_382 : decode cX12_count 382 = .ok (.iinc 3 1, 3) := by decide +kernel
theorem dX12_count_385 : decode cX12_count 385 = .ok (.goto (-24), 3) := by decide +kernel
theorem dX12_count_388 : decode cX12_count 388 = .ok (.iload_n 2, 1) := by decide +kernel
theorem dX12_count_389 : decode cX12_count 389 = .ok (.ireturn, 1) := by decide +kernel
theorem dX12_count_390 : decode cX12_count 390 = .ok (.iconst (-1), 1) := by decide +kernel
theorem dX12_count_391 : decode cX12_count 391 = .ok (.ireturn, 1) := by decide +kernel
theorem dJ11_isValidCodePoint_9a6ad_0 : decode cJ11_isValidCodePoint_9a6ad 0 = .ok (.iload_n 0, 1) := by decide +kernel
theorem dJ11_isValidCodePoint_9a6ad_1 : decode cJ11_isValidCodePoint_9a6ad 1 = .ok (.bipush 16, 2) := by decide +kernel
theorem dJ11_isValidCodePoint_9a6ad_3 : decode cJ11_isValidCodePoint_9a6ad 3 = .ok (.iushr, 1) := by decide +kernel
theorem dJ11_isValidCodePoint_9a6ad_4 : decode cJ11_isValidCodePoint_9a6ad 4 = .ok (.istore_n 1, 1) := by decide +kernel
theorem dJ11_isValidCodePoint_9a6ad_5 : decode cJ11_isValidCodePoint_9a6ad 5 = .ok (.iload_n 1, 1) := by decide +kernel
theorem dJ11_isValidCodePoint_9a6ad_6 : decode cJ11_isValidCodePoint_9a6ad 6 = .ok (.bipush 17, 2) := by decide +kernel
theorem dJ11_isValidCodePoint_9a6ad_8 : decode cJ11_isValidCodePoint_9a6ad 8 = .ok (.if_icmp .ge 7, 3) := by decide +kernel
theorem dJ11_isValidCodePoint_9a6ad_11 : decode cJ11_isValidCodePoint_9a6ad 11 = .ok (.iconst 1, 1) := by decide +kernel
theorem dJ11_isValidCodePoint_9a6ad_12 : decode cJ11_isValidCodePoint_9a6ad 12 = .ok (.goto 4, 3) := by decide +kernel
theorem dJ11_isValidCodePoint_9a6ad_15 : decode cJ11_isValidCodePoint_9a6ad 15 = .ok (.iconst 0, 1) := by decide +kernel
theorem dJ11_isValidCodePoint_9a6ad_16 : decode cJ11_isValidCodePoint_9a6ad 16 = .ok (.ireturn, 1) := by decide +kernel
theorem dJ11_highSurrogate_5068e_0 : decode cJ11_highSurrogate_5068e 0 = .ok (.iload_n 0, 1) := by decide +kernel
theorem dJ11_highSurrogate_5068e_1 : decode cJ11_highSurrogate_5068e 1 = .ok (.bipush 10, 2) := by decide +kernel
theorem dJ11_highSurrogate_5068e_3 : decode cJ11_highSurrogate_5068e 3 = .ok (.iushr, 1) := by decide +kernel
theorem dJ11_highSurrogate_5068e_4 : decode cJ11_highSurrogate_5068e 4 = .ok (.ldc 110, 2) := by decide +kernel
theorem dJ11_highSurrogate_5068e_6 : decode cJ11_highSurrogate_5068e 6 = .ok (.iadd, 1) := by decide +kernel
theorem dJ11_highSurrogate_5068e_7 : decode cJ11_highSurrogate_5068e 7 = .ok (.i2c, 1) := by decide +kernel
theorem dJ11_highSurrogate_5068e_8 : decode cJ11_highSurrogate_5068e 8 = .ok (.ireturn, 1) := by decide +kernel
theorem dJ11_lowSurrogate_5068e_0 : decode cJ11_lowSurrogate_5068e 0 = .ok (.iload_n 0, 1) := by decide +kernel
theorem dJ11_lowSurrogate_5068e_1 : decode cJ11_lowSurrogate_5068e 1 = .ok (.sipush 1023, 3) := by decide +kernel
theorem dJ11_lowSurrogate_5068e_4 : decode cJ11_lowSurrogate_5068e 4 = .ok (.iand, 1) := by decide +kernel
theorem dJ11_lowSurrogate_5068e_5 : decode cJ11_lowSurrogate_5068e 5 = .ok (.ldc 76, 2) := by decide +kernel
theorem dJ11_lowSurrogate_5068e_7 : decode cJ11_lowSurrogate_5068e 7 = .ok (.iadd, 1) := by decide +kernel
theorem dJ11_lowSurrogate_5068e_8 : decode cJ11_lowSurrogate_5068e 8 = .ok (.i2c, 1) := by decide +kernel
theorem dJ11_lowSurrogate_5068e_9 : decode cJ11_lowSurrogate_5068e 9 = .ok (.ireturn, 1) := by decide +kernel
theorem dJ6_bitCount_0f7a4_0 : decode cJ6_bitCount_0f7a4 0 = .ok (.iload_n 0, 1) := by decide +kernel
theorem dJ6_bitCount_0f7a4_1 : decode cJ6_bitCount_0f7a4 1 = .ok (.iload_n 0, 1) := by decide +kernel
theorem dJ6_bitCount_0f7a4_2 : decode cJ6_bitCount_0f7a4 2 = .ok (.iconst 1, 1) := by decide +kernel
theorem dJ6_bitCount_0f7a4_3 : decode cJ6_bitCount_0f7a4 3 = .ok (.iushr, 1) := by decide +kernel
theorem dJ6_bitCount_0f7a4_4 : decode cJ6_bitCount_0f7a4 4 = .ok (.ldc_w 265, 3) := by decide +kernel
theorem dJ6_bitCount_0f7a4_7 : decode cJ6_bitCount_0f7a4 7 = .ok (.iand, 1) := by decide +kernel
theorem dJ6_bitCount_0f7a4_8 : decode cJ6_bitCount_0f7a4 8 = .ok (.isub, 1) := by decide +kernel
theorem dJ6_bitCount_0f7a4_9 : decode cJ6_bitCount_0f7a4 9 = .ok (.istore_n 0, 1) := by decide +kernel
theorem dJ6_bitCount_0f7a4_10 : decode cJ6_bitCount_0f7a4 10 = .ok (.iload_n 0, 1) := by decide +kernel
theorem dJ6_bitCount_0f7a4_11 : decode cJ6_bitCount_0f7a4 11 = .ok (.ldc_w 266, 3) := by decide +kernel
theorem dJ6_bitCount_0f7a4_14 : decode cJ6_bitCount_0f7a4 14 = .ok (.iand, 1) := by decide +kernel
theorem dJ6_bitCount_0f7a4_15 : decode cJ6_bitCount_0f7a4 15 = .ok (.iload_n 0, 1) := by decide +kernel
theorem dJ6_bitCount_0f7a4_16 : decode cJ6_bitCount_0f7a4 16 = .ok (.iconst 2, 1) := by decide +kernel
theorem dJ6_bitCount_0f7a4_17 : decode cJ6_bitCount_0f7a4 17 = .ok (.iushr, 1) := by decide +kernel
theorem dJ6_bitCount_0f7a4_18 : decode cJ6_bitCount_0f7a4 18 = .ok (.ldc_w 266, 3) := by decide +kernel
theorem dJ6_bitCount_0f7a4_21 : decode cJ6_bitCount_0f7a4 21 = .ok (.iand, 1) := by decide +kernel
theorem dJ6_bitCount_0f7a4_22 : decode cJ6_bitCount_0f7a4 22 = .ok (.iadd, 1) := by decide +kernel
theorem dJ6_bitCount_0f7a4_23 : decode cJ6_bitCount_0f7a4 23 = .ok (.istore_n 0, 1) := by decide +kernel
theorem dJ6_bitCount_0f7a4_24 : decode cJ6_bitCount_0f7a4 24 = .ok (.iload_n 0, 1) := by decide +kernel
theorem dJ6_bitCount_0f7a4_25 : decode cJ6_bitCount_0f7a4 25 = .ok (.iload_n 0, 1) := by decide +kernel
theorem dJ6_bitCount_0f7a4_26 : decode cJ6_bitCount_0f7a4 26 = .ok (.iconst 4, 1) := by decide +kernel
theorem dJ6_bitCount_0f7a4_27 : decode cJ6_bitCount_0f7a4 27 = .ok (.iushr, 1) := by decide +kernel
theorem dJ6_bitCount_0f7a4_28 : decode cJ6_bitCount_0f7a4 28 = .ok (.iadd, 1) := by decide +kernel
theorem dJ6_bitCount_0f7a4_29 : decode cJ6_bitCount_0f7a4 29 = .ok (.ldc_w 267, 3) := by decide +kernel
theorem dJ6_bitCount_0f7a4_32 : decode cJ6_bitCount_0f7a4 32 = .ok (.iand, 1) := by decide +kernel
theorem dJ6_bitCount_0f7a4_33 : decode cJ6_bitCount_0f7a4 33 = .ok (.istore_n 0, 1) := by decide +kernel
theorem dJ6_bitCount_0f7a4_34 : decode cJ6_bitCount_0f7a4 34 = .ok (.iload_n 0, 1) := by decide +kernel
theorem dJ6_bitCount_0f7a4_35 : decode cJ6_bitCount_0f7a4 35 = .ok (.iload_n 0, 1) := by decide +kernel
theorem dJ6_bitCount_0f7a4_36 : decode cJ6_bitCount_0f7a4 36 = .ok (.bipush 8, 2) := by decide +kernel
theorem dJ6_bitCount_0f7a4_38 : decode cJ6_bitCount_0f7a4 38 = .ok (.iushr, 1) := by decide +kernel
theorem dJ6_bitCount_0f7a4_39 : decode cJ6_bitCount_0f7a4 39 = .ok (.iadd, 1) := by decide +kernel
theorem dJ6_bitCount_0f7a4_40 : decode cJ6_bitCount_0f7a4 40 = .ok (.istore_n 0, 1) := by decide +kernel
theorem dJ6_bitCount_0f7a4_41 : decode cJ6_bitCount_0f7a4 41 = .ok (.iload_n 0, 1) := by decide +kernel
theorem dJ6_bitCount_0f7a4_42 : decode cJ6_bitCount_0f7a4 42 = .ok (.iload_n 0, 1) := by decide +kernel
theorem dJ6_bitCount_0f7a4_43 : decode cJ6_bitCount_0f7a4 43 = .ok (.bipush 16, 2) := by decide +kernel
theorem dJ6_bitCount_0f7a4_45 : decode cJ6_bitCount_0f7a4 45 = .ok (.iushr, 1) := by decide +kernel
theorem dJ6_bitCount_0f7a4_46 : decode cJ6_bitCount_0f7a4 46 = .ok (.iadd, 1) := by decide +kernel
theorem dJ6_bitCount_0f7a4_47 : decode cJ6_bitCount_0f7a4 47 = .ok (.istore_n 0, 1) := by decide +kernel
theorem dJ6_bitCount_0f7a4_48 : decode cJ6_bitCount_0f7a4 48 = .ok (.iload_n 0, 1) := by decide +kernel
theorem dJ6_bitCount_0f7a4_49 : decode cJ6_bitCount_0f7a4 49 = .ok (.bipush 63, 2) := by decide +kernel
theorem dJ6_bitCount_0f7a4_51 : decode cJ6_bitCount_0f7a4 51 = .ok (.iand, 1) := by decide +kernel
theorem dJ6_bitCount_0f7a4_52 : decode cJ6_bitCount_0f7a4 52 = .ok (.ireturn, 1) := by decide +kernel
theorem dJ9_abs_0f7a4_0 : decode cJ9_abs_0f7a4 0 = .ok (.iload_n 0, 1) := by decide +kernel
theorem dJ9_abs_0f7a4_1 : decode cJ9_abs_0f7a4 1 = .ok (.ifCond .ge 8, 3) := by decide +kernel
theorem dJ9_abs_0f7a4_4 : decode cJ9_abs_0f7a4 4 = .ok (.iload_n 0, 1) := by decide +kernel
theorem dJ9_abs_0f7a4_5 : decode cJ9_abs_0f7a4 5 = .ok (.ineg, 1) := by decide +kernel
theorem dJ9_abs_0f7a4_6 : decode cJ9_abs_0f7a4 6 = .ok (.goto 4, 3) := by decide +kernel
theorem dJ9_abs_0f7a4_9 : decode cJ9_abs_0f7a4 9 = .ok (.iload_n 0, 1) := by decide +kernel
theorem dJ9_abs_0f7a4_10 : decode cJ9_abs_0f7a4 10 = .ok (.ireturn, 1) := by decide +kernel
theorem dJ9_max_7cf53_0 : decode cJ9_max_7cf53 0 = .ok (.iload_n 0, 1) := by decide +kernel
theorem dJ9_max_7cf53_1 : decode cJ9_max_7cf53 1 = .ok (.iload_n 1, 1) := by decide +kernel
theorem dJ9_max_7cf53_2 : decode cJ9_max_7cf53 2 = .ok (.if_icmp .lt 7, 3) := by decide +kernel
theorem dJ9_max_7cf53_5 : decode cJ9_max_7cf53 5 = .ok (.iload_n 0, 1) := by decide +kernel
theorem dJ9_max_7cf53_6 : decode cJ9_max_7cf53 6 = .ok (.goto 4, 3) := by decide +kernel
theorem dJ9_max_7cf53_9 : decode cJ9_max_7cf53 9 = .ok (.iload_n 1, 1) := by decide +kernel
theorem dJ9_max_7cf53_10 : decode cJ9_max_7cf53 10 = .ok (.ireturn, 1) := by decide +kernel
theorem dJ9_min_7cf53_0 : decode cJ9_min_7cf53 0 = .ok (.iload_n 0, 1) := by decide +kernel
theorem dJ9_min_7cf53_1 : decode cJ9_min_7cf53 1 = .ok (.iload_n 1, 1) := by decide +kernel
theorem dJ9_min_7cf53_2 : decode cJ9_min_7cf53 2 = .ok (.if_icmp .gt 7, 3) := by decide +kernel
theorem dJ9_min_7cf53_5 : decode cJ9_min_7cf53 5 = .ok (.iload_n 0, 1) := by decide +kernel
theorem dJ9_min_7cf53_6 : decode cJ9_min_7cf53 6 = .ok (.goto 4, 3) := by decide +kernel
theorem dJ9_min_7cf53_9 : decode cJ9_min_7cf53 9 = .ok (.iload_n 1, 1) := by decide +kernel
theorem dJ9_min_7cf53_10 : decode cJ9_min_7cf53 10 = .ok (.ireturn, 1) := by decide +kernel
theorem dJ0_length_8abf5_0 : decode cJ0_length_8abf5 0 = .ok (.aload_n 0, 1) := by decide +kernel
theorem dJ0_length_8abf5_1 : decode cJ0_length_8abf5 1 = .ok (.getfield 9, 3) := by decide +kernel
theorem dJ0_length_8abf5_4 : decode cJ0_length_8abf5 4 = .ok (.arraylength, 1) := by decide +kernel
theorem dJ0_length_8abf5_5 : decode cJ0_length_8abf5 5 = .ok (.aload_n 0, 1) := by decide +kernel
theorem dJ0_length_8abf5_6 : decode cJ0_length_8abf5 6 = .ok (.invokevirtual 335, 3) := by decide +kernel
theorem dJ0_length_8abf5_9 : decode cJ0_length_8abf5 9 = .ok (.ishr, 1) := by decide +kernel
theorem dJ0_length_8abf5_10 : decode cJ0_length_8abf5 10 = .ok (.ireturn, 1) := by decide +kernel
theorem dJ0_charAt_5068e_0 : decode cJ0_charAt_5068e 0 = .ok (.aload_n 0, 1) := by decide +kernel
theorem dJ0_charAt_5068e_1 : decode cJ0_charAt_5068e 1 = .ok (.invokevirtual 492, 3) := by decide +kernel
theorem dJ0_charAt_5068e_4 : decode cJ0_charAt_5068e 4 = .ok (.ifCond .eq 12, 3) := by decide +kernel
theorem dJ0_charAt_5068e_7 : decode cJ0_charAt_5068e 7 = .ok (.aload_n 0, 1) := by decide +kernel
theorem dJ0_charAt_5068e_8 : decode cJ0_charAt_5068e 8 = .ok (.getfield 9, 3) := by decide +kernel
theorem dJ0_charAt_5068e_11 : decode cJ0_charAt_5068e 11 = .ok (.iload_n 1, 1) := by decide +kernel
theorem dJ0_charAt_5068e_12 : decode cJ0_charAt_5068e 12 = .ok (.invokestatic 495, 3) := by decide +kernel
theorem dJ0_charAt_5068e_15 : decode cJ0_charAt_5068e 15 = .ok (.ireturn, 1) := by decide +kernel
theorem dJ0_charAt_5068e_16 : decode cJ0_charAt_5068e 16 = .ok (.aload_n 0, 1) := by decide +kernel
theorem dJ0_charAt_5068e_17 : decode cJ0_charAt_5068e 17 = .ok (.getfield 9, 3) := by decide +kernel
theorem dJ0_charAt_5068e_20 : decode cJ0_charAt_5068e 20 = .ok (.iload_n 1, 1) := by decide +kernel
theorem dJ0_charAt_5068e_21 : decode cJ0_charAt_5068e 21 = .ok (.invokestatic 498, 3) := by decide +kernel
theorem dJ0_charAt_5068e_24 : decode cJ0_charAt_5068e 24 = .ok (.ireturn, 1) := by decide +kernel
theorem dJ0_indexOf_0f7a4_0 : decode cJ0_indexOf_0f7a4 0 = .ok (.aload_n 0, 1) := by decide +kernel
theorem dJ0_indexOf_0f7a4_1 : decode cJ0_indexOf_0f7a4 1 = .ok (.iload_n 1, 1) := by decide +kernel
theorem dJ0_indexOf_0f7a4_2 : decode cJ0_indexOf_0f7a4 2 = .ok (.iconst 0, 1) := by decide +kernel
theorem dJ0_indexOf_0f7a4_3 : decode cJ0_indexOf_0f7a4 3 = .ok (.invokevirtual 633, 3) := by decide +kernel
theorem dJ0_indexOf_0f7a4_6 : decode cJ0_indexOf_0f7a4 6 = .ok (.ireturn, 1) := by decide +kernel
theorem dJ0_indexOf_7cf53_0 : decode cJ0_indexOf_7cf53 0 = .ok (.aload_n 0, 1) := by decide +kernel
theorem dJ0_indexOf_7cf53_1 : decode cJ0_indexOf_7cf53 1 = .ok (.invokevirtual 492, 3) := by decide +kernel
theorem dJ0_indexOf_7cf53_4 : decode cJ0_indexOf_7cf53 4 = .ok (.ifCond .eq 19, 3) := by decide +kernel
theorem dJ0_indexOf_7cf53_7 : decode cJ0_indexOf_7cf53 7 = .ok (.aload_n 0, 1) := by decide +kernel
theorem dJ0_indexOf_7cf53_8 : decode cJ0_indexOf_7cf53 8 = .ok (.getfield 9, 3) := by decide +kernel
theorem dJ0_indexOf_7cf53_11 : decode cJ0_indexOf_7cf53 11 = .ok (.iload_n 1, 1) := by decide +kernel
theorem dJ0_indexOf_7cf53_12 : decode cJ0_indexOf_7cf53 12 = .ok (.iload_n 2, 1) := by decide +kernel
theorem dJ0_indexOf_7cf53_13 : decode cJ0_indexOf_7cf53 13 = .ok (.aload_n 0, 1) := by decide +kernel
theorem dJ0_indexOf_7cf53_14 : decode cJ0_indexOf_7cf53 14 = .ok (.invokevirtual 505, 3) := by decide +kernel
theorem dJ0_indexOf_7cf53_17 : decode cJ0_indexOf_7cf53 17 = .ok (.invokestatic 637, 3) := by decide +kernel
theorem dJ0_indexOf_7cf53_20 : decode cJ0_indexOf_7cf53 20 = .ok (.goto 16, 3) := by decide +kernel
theorem dJ0_indexOf_7cf53_23 : decode cJ0_indexOf_7cf53 23 = .ok (.aload_n 0, 1) := by decide +kernel
theorem dJ0_indexOf_7cf53_24 : decode cJ0_indexOf_7cf53 24 = .ok (.getfield 9, 3) := by decide +kernel
theorem dJ0_indexOf_7cf53_27 : decode cJ0_indexOf_7cf53 27 = .ok (.iload_n 1, 1) := by decide +kernel
theorem dJ0_indexOf_7cf53_28 : decode cJ0_indexOf_7cf53 28 = .ok (.iload_n 2, 1) := by decide +kernel
theorem dJ0_indexOf_7cf53_29 : decode cJ0_indexOf_7cf53 29 = .ok (.aload_n 0, 1) := by decide +kernel
theorem dJ0_indexOf_7cf53_30 : decode cJ0_indexOf_7cf53 30 = .ok (.invokevirtual 505, 3) := by decide +kernel
theorem dJ0_indexOf_7cf53_33 : decode cJ0_indexOf_7cf53 33 = .ok (.invokestatic 640, 3) := by decide +kernel
theorem dJ0_indexOf_7cf53_36 : decode cJ0_indexOf_7cf53 36 = .ok (.ireturn, 1) := by decide +kernel
theorem dJ0_coder_7d493_0 : decode cJ0_coder_7d493 0 = .ok (.getstatic 38, 3) := by decide +kernel
theorem dJ0_coder_7d493_3 : decode cJ0_coder_7d493 3 = .ok (.ifCond .eq 10, 3) := by decide +kernel
theorem dJ0_coder_7d493_6 : decode cJ0_coder_7d493 6 = .ok (.aload_n 0, 1) := by decide +kernel
theorem dJ0_coder_7d493_7 : decode cJ0_coder_7d493 7 = .ok (.getfield 15, 3) := by decide +kernel
theorem dJ0_coder_7d493_10 : decode cJ0_coder_7d493 10 = .ok (.goto 4, 3) := by decide +kernel
theorem dJ0_coder_7d493_13 : decode cJ0_coder_7d493 13 = .ok (.iconst 1, 1) := by decide +kernel
theorem dJ0_coder_7d493_14 : decode cJ0_coder_7d493 14 = .ok (.ireturn, 1) := by decide +kernel
theorem dJ0_isLatin1_aae02_0 : decode cJ0_isLatin1_aae02 0 = .ok (.getstatic 38, 3) := by decide +kernel
theorem dJ0_isLatin1_aae02_3 : decode cJ0_isLatin1_aae02 3 = .ok (.ifCond .eq 14, 3) := by decide +kernel
theorem dJ0_isLatin1_aae02_6 : decode cJ0_isLatin1_aae02 6 = .ok (.aload_n 0, 1) := by decide +kernel
theorem dJ0_isLatin1_aae02_7 : decode cJ0_isLatin1_aae02 7 = .ok (.getfield 15, 3) := by decide +kernel
theorem dJ0_isLatin1_aae02_10 : decode cJ0_isLatin1_aae02 10 = .ok (.ifCond .ne 7, 3) := by decide +kernel
theorem dJ0_isLatin1_aae02_13 : decode cJ0_isLatin1_aae02 13 = .ok (.iconst 1, 1) := by decide +kernel
theorem dJ0_isLatin1_aae02_14 : decode cJ0_isLatin1_aae02 14 = .ok (.goto 4, 3) := by decide +kernel
theorem dJ0_isLatin1_aae02_17 : decode cJ0_isLatin1_aae02 17 = .ok (.iconst 0, 1) := by decide +kernel
theorem dJ0_isLatin1_aae02_18 : decode cJ0_isLatin1_aae02 18 = .ok (.ireturn, 1) := by decide +kernel
theorem dJ0_checkIndex_df160_0 : decode cJ0_checkIndex_df160 0 = .ok (.iload_n 0, 1) := by decide +kernel
theorem dJ0_checkIndex_df160_1 : decode cJ0_checkIndex_df160 1 = .ok (.iload_n 1, 1) := by decide +kernel
theorem dJ0_checkIndex_df160_2 : decode cJ0_checkIndex_df160 2 = .ok (.getstatic 1053, 3) := by decide +kernel
theorem dJ0_checkIndex_df160_5 : decode cJ0_checkIndex_df160 5 = .ok (.invokestatic 1059, 3) := by decide +kernel
theorem dJ0_checkIndex_df160_8 : decode cJ0_checkIndex_df160 8 = .ok (.pop, 1) := by decide +kernel
theorem dJ0_checkIndex_df160_9 : decode cJ0_checkIndex_df160 9 = .ok (.return_, 1) := by decide +kernel
theorem dJ0_checkBoundsBeginEnd_23922_0 : decode cJ0_checkBoundsBeginEnd_23922 0 = .ok (.iload_n 0, 1) := by decide +kernel
theorem dJ0_checkBoundsBeginEnd_23922_1 : decode cJ0_checkBoundsBeginEnd_23922 1 = .ok (.iload_n 1, 1) := by decide +kernel
theorem dJ0_checkBoundsBeginEnd_23922_2 : decode cJ0_checkBoundsBeginEnd_23922 2 = .ok (.iload_n 2, 1) := by decide +kernel
theorem dJ0_checkBoundsBeginEnd_23922_3 : decode cJ0_checkBoundsBeginEnd_23922 3 = .ok (.getstatic 1053, 3) := by decide +kernel
theorem dJ0_checkBoundsBeginEnd_23922_6 : decode cJ0_checkBoundsBeginEnd_23922 6 = .ok (.invokestatic 1062, 3) := by decide +kernel
theorem dJ0_checkBoundsBeginEnd_23922_9 : decode cJ0_checkBoundsBeginEnd_23922 9 = .ok (.pop, 1) := by decide +kernel
theorem dJ0_checkBoundsBeginEnd_23922_10 : decode cJ0_checkBoundsBeginEnd_23922 10 = .ok (.return_, 1) := by decide +kernel
theorem dJ1_charAt_3b067_0 : decode cJ1_charAt_3b067 0 = .ok (.iload_n 1, 1) := by decide +kernel
theorem dJ1_charAt_3b067_1 : decode cJ1_charAt_3b067 1 = .ok (.aload_n 0, 1) := by decide +kernel
theorem dJ1_charAt_3b067_2 : decode cJ1_charAt_3b067 2 = .ok (.arraylength, 1) := by decide +kernel
theorem dJ1_charAt_3b067_3 : decode cJ1_charAt_3b067 3 = .ok (.invokestatic 9, 3) := by decide +kernel
theorem dJ1_charAt_3b067_6 : decode cJ1_charAt_3b067 6 = .ok (.aload_n 0, 1) := by decide +kernel
theorem dJ1_charAt_3b067_7 : decode cJ1_charAt_3b067 7 = .ok (.iload_n 1, 1) := by decide +kernel
theorem dJ1_charAt_3b067_8 : decode cJ1_charAt_3b067 8 = .ok (.baload, 1) := by decide +kernel
theorem dJ1_charAt_3b067_9 : decode cJ1_charAt_3b067 9 = .ok (.sipush 255, 3) := by decide +kernel
theorem dJ1_charAt_3b067_12 : decode cJ1_charAt_3b067 12 = .ok (.iand, 1) := by decide +kernel
theorem dJ1_charAt_3b067_13 : decode cJ1_charAt_3b067 13 = .ok (.i2c, 1) := by decide +kernel
theorem dJ1_charAt_3b067_14 : decode cJ1_charAt_3b067 14 = .ok (.ireturn, 1) := by decide +kernel
theorem dJ1_canEncode_9a6ad_0 : decode cJ1_canEncode_9a6ad 0 = .ok (.iload_n 0, 1) := by decide +kernel
theorem dJ1_canEncode_9a6ad_1 : decode cJ1_canEncode_9a6ad 1 = .ok (.ifCond .lt 14, 3) := by decide +kernel
theorem dJ1_canEncode_9a6ad_4 : decode cJ1_canEncode_9a6ad 4 = .ok (.iload_n 0, 1) := by decide +kernel
theorem dJ1_canEncode_9a6ad_5 : decode cJ1_canEncode_9a6ad 5 = .ok (.sipush 255, 3) := by decide +kernel
theorem dJ1_canEncode_9a6ad_8 : decode cJ1_canEncode_9a6ad 8 = .ok (.if_icmp .gt 7, 3) := by decide +kernel
theorem dJ1_canEncode_9a6ad_11 : decode cJ1_canEncode_9a6ad 11 = .ok (.iconst 1, 1) := by decide +kernel
theorem dJ1_canEncode_9a6ad_12 : decode cJ1_canEncode_9a6ad 12 = .ok (.goto 4, 3) := by decide +kernel
theorem dJ1_canEncode_9a6ad_15 : decode cJ1_canEncode_9a6ad 15 = .ok (.iconst 0, 1) := by decide +kernel
theorem dJ1_canEncode_9a6ad_16 : decode cJ1_canEncode_9a6ad 16 = .ok (.ireturn, 1) := by decide +kernel
theorem dJ1_indexOf_4cfef_0 : decode cJ1_indexOf_4cfef 0 = .ok (.iload_n 1, 1) := by decide +kernel
theorem dJ1_indexOf_4cfef_1 : decode cJ1_indexOf_4cfef 1 = .ok (.invokestatic 88, 3) := by decide +kernel
theorem dJ1_indexOf_4cfef_4 : decode cJ1_indexOf_4cfef 4 = .ok (.ifCond .ne 5, 3) := by decide +kernel
theorem dJ1_indexOf_4cfef_7 : decode cJ1_indexOf_4cfef 7 = .ok (.iconst (-1), 1) := by decide +kernel
theorem dJ1_indexOf_4cfef_8 : decode cJ1_indexOf_4cfef 8 = .ok (.ireturn, 1) := by decide +kernel
theorem dJ1_indexOf_4cfef_9 : decode cJ1_indexOf_4cfef 9 = .ok (.iload_n 2, 1) := by decide +kernel
theorem dJ1_indexOf_4cfef_10 : decode cJ1_indexOf_4cfef 10 = .ok (.iconst 0, 1) := by decide +kernel
theorem dJ1_indexOf_4cfef_11 : decode cJ1_indexOf_4cfef 11 = .ok (.invokestatic 92, 3) := by decide +kernel
theorem dJ1_indexOf_4cfef_14 : decode cJ1_indexOf_4cfef 14 = .ok (.istore_n 2, 1) := by decide +kernel
theorem dJ1_indexOf_4cfef_15 : decode cJ1_indexOf_4cfef 15 = .ok (.iload_n 3, 1) := by decide +kernel
theorem dJ1_indexOf_4cfef_16 : decode cJ1_indexOf_4cfef 16 = .ok (.aload_n 0, 1) := by decide +kernel
theorem dJ1_indexOf_4cfef_17 : decode cJ1_indexOf_4cfef 17 = .ok (.arraylength, 1) := by decide +kernel
theorem dJ1_indexOf_4cfef_18 : decode cJ1_indexOf_4cfef 18 = .ok (.invokestatic 38, 3) := by decide +kernel
theorem dJ1_indexOf_4cfef_21 : decode cJ1_indexOf_4cfef 21 = .ok (.istore_n 3, 1) := by decide +kernel
theorem dJ1_indexOf_4cfef_22 : decode cJ1_indexOf_4cfef 22 = .ok (.iload_n 2, 1) := by decide +kernel
theorem dJ1_indexOf_4cfef_23 : decode cJ1_indexOf_4cfef 23 = .ok (.iload_n 3, 1) := by decide +kernel
theorem dJ1_indexOf_4cfef_24 : decode cJ1_indexOf_4cfef 24 = .ok (.if_icmp .lt 5, 3) := by decide +kernel
theorem dJ1_indexOf_4cfef_27 : decode cJ1_indexOf_4cfef 27 = .ok (.iconst (-1), 1) := by decide +kernel
theorem dJ1_indexOf_4cfef_28 : decode cJ1_indexOf_4cfef 28 = .ok (.ireturn, 1) := by decide +kernel
theorem dJ1_indexOf_4cfef_29 : decode cJ1_indexOf_4cfef 29 = .ok (.aload_n 0, 1) := by decide +kernel
theorem dJ1_indexOf_4cfef_30 : decode cJ1_indexOf_4cfef 30 = .ok (.iload_n 1, 1) := by decide +kernel
theorem dJ1_indexOf_4cfef_31 : decode cJ1_indexOf_4cfef 31 = .ok (.iload_n 2, 1) := by decide +kernel
theorem dJ1_indexOf_4cfef_32 : decode cJ1_indexOf_4cfef 32 = .ok (.iload_n 3, 1) := by decide +kernel
theorem dJ1_indexOf_4cfef_33 : decode cJ1_indexOf_4cfef 33 = .ok (.invokestatic 95, 3) := by decide +kernel
theorem dJ1_indexOf_4cfef_36 : decode cJ1_indexOf_4cfef 36 = .ok (.ireturn, 1) := by decide +kernel
theorem dJ1_indexOfChar_4cfef_0 : decode cJ1_indexOfChar_4cfef 0 = .ok (.iload_n 1, 1) := by decide +kernel
theorem dJ1_indexOfChar_4cfef_1 : decode cJ1_indexOfChar_4cfef 1 = .ok (.i2b, 1) := by decide +kernel
theorem dJ1_indexOfChar_4cfef_2 : decode cJ1_indexOfChar_4cfef 2 = .ok (.istore 4, 2) := by decide +kernel
theorem dJ1_indexOfChar_4cfef_4 : decode cJ1_indexOfChar_4cfef 4 = .ok (.iload_n 2, 1) := by decide +kernel
theorem dJ1_indexOfChar_4cfef_5 : decode cJ1_indexOfChar_4cfef 5 = .ok (.istore 5, 2) := by decide +kernel
theorem dJ1_indexOfChar_4cfef_7 : decode cJ1_indexOfChar_4cfef 7 = .ok (.iload 5, 2) := by decide +kernel
theorem dJ1_indexOfChar_4cfef_9 : decode cJ1_indexOfChar_4cfef 9 = .ok (.iload_n 3, 1) := by decide +kernel
theorem dJ1_indexOfChar_4cfef_10 : decode cJ1_indexOfChar_4cfef 10 = .ok (.if_icmp .ge 21, 3) := by decide +kernel
theorem dJ1_indexOfChar_4cfef_13 : decode cJ1_indexOfChar_4cfef 13 = .ok (.aload_n 0, 1) := by decide +kernel
theorem dJ1_indexOfChar_4cfef_14 : decode cJ1_indexOfChar_4cfef 14 = .ok (.iload 5, 2) := by decide +kernel
theorem dJ1_indexOfChar_4cfef_16 : decode cJ1_indexOfChar_4cfef 16 = .ok (.baload, 1) := by decide +kernel
theorem dJ1_indexOfChar_4cfef_17 : decode cJ1_indexOfChar_4cfef 17 = .ok (.iload 4, 2) := by decide +kernel
theorem dJ1_indexOfChar_4cfef_19 : decode cJ1_indexOfChar_4cfef 19 = .ok (.if_icmp .ne 6, 3) := by decide +kernel
theorem dJ1_indexOfChar_4cfef_22 : decode cJ1_indexOfChar_4cfef 22 = .ok (.iload 5, 2) := by decide +kernel
theorem dJ1_indexOfChar_4cfef_24 : decode cJ1_indexOfChar_4cfef 24 = .ok (.ireturn, 1) := by decide +kernel
theorem dJ1_indexOfChar_4cfef_25 : decode cJ1_indexOfChar_4cfef 25 = .ok (.iinc 5 1, 3) := by decide +kernel
theorem dJ1_indexOfChar_4cfef_28 : decode cJ1_indexOfChar_4cfef 28 = .ok (.goto (-21), 3) := by decide +kernel
theorem dJ1_indexOfChar_4cfef_31 : decode cJ1_indexOfChar_4cfef 31 = .ok (.iconst (-1), 1) := by decide +kernel
theorem dJ1_indexOfChar_4cfef_32 : decode cJ1_indexOfChar_4cfef 32 = .ok (.ireturn, 1) := by decide +kernel
theorem dJ2_getChar_3b067_0 : decode cJ2_getChar_3b067 0 = .ok (.getstatic 44, 3) := by decide +kernel
theorem dJ2_getChar_3b067_3 : decode cJ2_getChar_3b067 3 = .ok (.ifCond .ne 25, 3) := by decide +kernel
theorem dJ2_getChar_3b067_6 : decode cJ2_getChar_3b067 6 = .ok (.iload_n 1, 1) := by decide +kernel
theorem dJ2_getChar_3b067_7 : decode cJ2_getChar_3b067 7 = .ok (.ifCond .lt 11, 3) := by decide +kernel
theorem dJ2_getChar_3b067_10 : decode cJ2_getChar_3b067 10 = .ok (.iload_n 1, 1) := by decide +kernel
theorem dJ2_getChar_3b067_11 : decode cJ2_getChar_3b067 11 = .ok (.aload_n 0, 1) := by decide +kernel
theorem dJ2_getChar_3b067_12 : decode cJ2_getChar_3b067 12 = .ok (.invokestatic 48, 3) := by decide +kernel
theorem dJ2_getChar_3b067_15 : decode cJ2_getChar_3b067 15 = .ok (.if_icmp .lt 13, 3) := by decide +kernel
theorem dJ2_getChar_3b067_18 : decode cJ2_getChar_3b067 18 = .ok (.new 52, 3) := by decide +kernel
theorem dJ2_getChar_3b067_21 : decode cJ2_getChar_3b067 21 = .ok (.dup, 1) := by decide +kernel
theorem dJ2_getChar_3b067_22 : decode cJ2_getChar_3b067 22 = .ok (.ldc 54, 2) := by decide +kernel
theorem dJ2_getChar_3b067_24 : decode cJ2_getChar_3b067 24 = .ok (.invokespecial 56, 3) := by decide +kernel
theorem dJ2_getChar_3b067_27 : decode cJ2_getChar_3b067 27 = .ok (.athrow, 1) := by decide +kernel
theorem dJ2_getChar_3b067_28 : decode cJ2_getChar_3b067 28 = .ok (.iload_n 1, 1) := by decide +kernel
theorem dJ2_getChar_3b067_29 : decode cJ2_getChar_3b067 29 = .ok (.iconst 1, 1) := by decide +kernel
theorem dJ2_getChar_3b067_30 : decode cJ2_getChar_3b067 30 = .ok (.ishl, 1) := by decide +kernel
theorem dJ2_getChar_3b067_31 : decode cJ2_getChar_3b067 31 = .ok (.istore_n 1, 1) := by decide +kernel
theorem dJ2_getChar_3b067_32 : decode cJ2_getChar_3b067 32 = .ok (.aload_n 0, 1) := by decide +kernel
theorem dJ2_getChar_3b067_33 : decode cJ2_getChar_3b067 33 = .ok (.iload_n 1, 1) := by decide +kernel
theorem dJ2_getChar_3b067_34 : decode cJ2_getChar_3b067 34 = .ok (.iinc 1 1, 3) := by decide +kernel
theorem dJ2_getChar_3b067_37 : decode cJ2_getChar_3b067 37 = .ok (.baload, 1) := by decide +kernel
theorem dJ2_getChar_3b067_38 : decode cJ2_getChar_3b067 38 = .ok (.sipush 255, 3) := by decide +kernel
theorem dJ2_getChar_3b067_41 : decode cJ2_getChar_3b067 41 = .ok (.iand, 1) := by decide +kernel
theorem dJ2_getChar_3b067_42 : decode cJ2_getChar_3b067 42 = .ok (.getstatic 59, 3) := by decide +kernel
theorem dJ2_getChar_3b067_45 : decode cJ2_getChar_3b067 45 = .ok (.ishl, 1) := by decide +kernel
theorem dJ2_getChar_3b067_46 : decode cJ2_getChar_3b067 46 = .ok (.aload_n 0, 1) := by decide +kernel
theorem dJ2_getChar_3b067_47 : decode cJ2_getChar_3b067 47 = .ok (.iload_n 1, 1) := by decide +kernel
theorem dJ2_getChar_3b067_48 : decode cJ2_getChar_3b067 48 = .ok (.baload, 1) := by decide +kernel
theorem dJ2_getChar_3b067_49 : decode cJ2_getChar_3b067 49 = .ok (.sipush 255, 3) := by decide +kernel
theorem dJ2_getChar_3b067_52 : decode cJ2_getChar_3b067 52 = .ok (.iand, 1) := by decide +kernel
theorem dJ2_getChar_3b067_53 : decode cJ2_getChar_3b067 53 = .ok (.getstatic 63, 3) := by decide +kernel
theorem dJ2_getChar_3b067_56 : decode cJ2_getChar_3b067 56 = .ok (.ishl, 1) := by decide +kernel
theorem dJ2_getChar_3b067_57 : decode cJ2_getChar_3b067 57 = .ok (.ior, 1) := by decide +kernel
theorem dJ2_getChar_3b067_58 : decode cJ2_getChar_3b067 58 = .ok (.i2c, 1) := by decide +kernel
theorem dJ2_getChar_3b067_59 : decode cJ2_getChar_3b067 59 = .ok (.ireturn, 1) := by decide +kernel
theorem dJ2_length_9d52b_0 : decode cJ2_length_9d52b 0 = .ok (.aload_n 0, 1) := by decide +kernel
theorem dJ2_length_9d52b_1 : decode cJ2_length_9d52b 1 = .ok (.arraylength, 1) := by decide +kernel
theorem dJ2_length_9d52b_2 : decode cJ2_length_9d52b 2 = .ok (.iconst 1, 1) := by decide +kernel
theorem dJ2_length_9d52b_3 : decode cJ2_length_9d52b 3 = .ok (.ishr, 1) := by decide +kernel
theorem dJ2_length_9d52b_4 : decode cJ2_length_9d52b 4 = .ok (.ireturn, 1) := by decide +kernel
theorem dJ2_indexOf_4cfef_0 : decode cJ2_indexOf_4cfef 0 = .ok (.iload_n 2, 1) := by decide +kernel
theorem dJ2_indexOf_4cfef_1 : decode cJ2_indexOf_4cfef 1 = .ok (.iconst 0, 1) := by decide +kernel
theorem dJ2_indexOf_4cfef_2 : decode cJ2_indexOf_4cfef 2 = .ok (.invokestatic 224, 3) := by decide +kernel
theorem dJ2_indexOf_4cfef_5 : decode cJ2_indexOf_4cfef 5 = .ok (.istore_n 2, 1) := by decide +kernel
theorem dJ2_indexOf_4cfef_6 : decode cJ2_indexOf_4cfef 6 = .ok (.iload_n 3, 1) := by decide +kernel
theorem dJ2_indexOf_4cfef_7 : decode cJ2_indexOf_4cfef 7 = .ok (.aload_n 0, 1) := by decide +kernel
theorem dJ2_indexOf_4cfef_8 : decode cJ2_indexOf_4cfef 8 = .ok (.arraylength, 1) := by decide +kernel
theorem dJ2_indexOf_4cfef_9 : decode cJ2_indexOf_4cfef 9 = .ok (.iconst 1, 1) := by decide +kernel
theorem dJ2_indexOf_4cfef_10 : decode cJ2_indexOf_4cfef 10 = .ok (.ishr, 1) := by decide +kernel
theorem dJ2_indexOf_4cfef_11 : decode cJ2_indexOf_4cfef 11 = .ok (.invokestatic 183, 3) := by decide +kernel
theorem dJ2_indexOf_4cfef_14 : decode cJ2_indexOf_4cfef 14 = .ok (.istore_n 3, 1) := by decide +kernel
theorem dJ2_indexOf_4cfef_15 : decode cJ2_indexOf_4cfef 15 = .ok (.iload_n 2, 1) := by decide +kernel
theorem dJ2_indexOf_4cfef_16 : decode cJ2_indexOf_4cfef 16 = .ok (.iload_n 3, 1) := by decide +kernel
theorem dJ2_indexOf_4cfef_17 : decode cJ2_indexOf_4cfef 17 = .ok (.if_icmp .lt 5, 3) := by decide +kernel
theorem dJ2_indexOf_4cfef_20 : decode cJ2_indexOf_4cfef 20 = .ok (.iconst (-1), 1) := by decide +kernel
theorem dJ2_indexOf_4cfef_21 : decode cJ2_indexOf_4cfef 21 = .ok (.ireturn, 1) := by decide +kernel
theorem dJ2_indexOf_4cfef_22 : decode cJ2_indexOf_4cfef 22 = .ok (.iload_n 1, 1) := by decide +kernel
theorem dJ2_indexOf_4cfef_23 : decode cJ2_indexOf_4cfef 23 = .ok (.ldc 227, 2) := by decide +kernel
theorem dJ2_indexOf_4cfef_25 : decode cJ2_indexOf_4cfef 25 = .ok (.if_icmp .ge 11, 3) := by decide +kernel
theorem dJ2_indexOf_4cfef_28 : decode cJ2_indexOf_4cfef 28 = .ok (.aload_n 0, 1) := by decide +kernel
theorem dJ2_indexOf_4cfef_29 : decode cJ2_indexOf_4cfef 29 = .ok (.iload_n 1, 1) := by decide +kernel
theorem dJ2_indexOf_4cfef_30 : decode cJ2_indexOf_4cfef 30 = .ok (.iload_n 2, 1) := by decide +kernel
theorem dJ2_indexOf_4cfef_31 : decode cJ2_indexOf_4cfef 31 = .ok (.iload_n 3, 1) := by decide +kernel
theorem dJ2_indexOf_4cfef_32 : decode cJ2_indexOf_4cfef 32 = .ok (.invokestatic 228, 3) := by decide +kernel
theorem dJ2_indexOf_4cfef_35 : decode cJ2_indexOf_4cfef 35 = .ok (.ireturn, 1) := by decide +kernel
theorem dJ2_indexOf_4cfef_36 : decode cJ2_indexOf_4cfef 36 = .ok (.aload_n 0, 1) := by decide +kernel
theorem dJ2_indexOf_4cfef_37 : decode cJ2_indexOf_4cfef 37 = .ok (.iload_n 1, 1) := by decide +kernel
theorem dJ2_indexOf_4cfef_38 : decode cJ2_indexOf_4cfef 38 = .ok (.iload_n 2, 1) := by decide +kernel
theorem dJ2_indexOf_4cfef_39 : decode cJ2_indexOf_4cfef 39 = .ok (.iload_n 3, 1) := by decide +kernel
theorem dJ2_indexOf_4cfef_40 : decode cJ2_indexOf_4cfef 40 = .ok (.invokestatic 232, 3) := by decide +kernel
theorem dJ2_indexOf_4cfef_43 : decode cJ2_indexOf_4cfef 43 = .ok (.ireturn, 1) := by decide +kernel
theorem dJ2_indexOfChar_4cfef_0 : decode cJ2_indexOfChar_4cfef 0 = .ok (.iload_n 2, 1) := by decide +kernel
theorem dJ2_indexOfChar_4cfef_1 : decode cJ2_indexOfChar_4cfef 1 = .ok (.iload_n 3, 1) := by decide +kernel
theorem dJ2_indexOfChar_4cfef_2 : decode cJ2_indexOfChar_4cfef 2 = .ok (.aload_n 0, 1) := by decide +kernel
theorem dJ2_indexOfChar_4cfef_3 : decode cJ2_indexOfChar_4cfef 3 = .ok (.invokestatic 96, 3) := by decide +kernel
theorem dJ2_indexOfChar_4cfef_6 : decode cJ2_indexOfChar_4cfef 6 = .ok (.aload_n 0, 1) := by decide +kernel
theorem dJ2_indexOfChar_4cfef_7 : decode cJ2_indexOfChar_4cfef 7 = .ok (.iload_n 1, 1) := by decide +kernel
theorem dJ2_indexOfChar_4cfef_8 : decode cJ2_indexOfChar_4cfef 8 = .ok (.iload_n 2, 1) := by decide +kernel
theorem dJ2_indexOfChar_4cfef_9 : decode cJ2_indexOfChar_4cfef 9 = .ok (.iload_n 3, 1) := by decide +kernel
theorem dJ2_indexOfChar_4cfef_10 : decode cJ2_indexOfChar_4cfef 10 = .ok (.invokestatic 244, 3) := by decide +kernel
theorem dJ2_indexOfChar_4cfef_13 : decode cJ2_indexOfChar_4cfef 13 = .ok (.ireturn, 1) := by decide +kernel
theorem dJ2_indexOfCharUnsafe_4cfef_0 : decode cJ2_indexOfCharUnsafe_4cfef 0 = .ok (.iload_n 2, 1) := by decide +kernel
theorem dJ2_indexOfCharUnsafe_4cfef_1 : decode cJ2_indexOfCharUnsafe_4cfef 1 = .ok (.istore 4, 2) := by decide +kernel
theorem dJ2_indexOfCharUnsafe_4cfef_3 : decode cJ2_indexOfCharUnsafe_4cfef 3 = .ok (.iload 4, 2) := by decide +kernel
theorem dJ2_indexOfCharUnsafe_4cfef_5 : decode cJ2_indexOfCharUnsafe_4cfef 5 = .ok (.iload_n 3, 1) := by decide +kernel
theorem dJ2_indexOfCharUnsafe_4cfef_6 : decode cJ2_indexOfCharUnsafe_4cfef 6 = .ok (.if_icmp .ge 22, 3) := by decide +kernel
theorem dJ2_indexOfCharUnsafe_4cfef_9 : decode cJ2_indexOfCharUnsafe_4cfef 9 = .ok (.aload_n 0, 1) := by decide +kernel
theorem dJ2_indexOfCharUnsafe_4cfef_10 : decode cJ2_indexOfCharUnsafe_4cfef 10 = .ok (.iload 4, 2) := by decide +kernel
theorem dJ2_indexOfCharUnsafe_4cfef_12 : decode cJ2_indexOfCharUnsafe_4cfef 12 = .ok (.invokestatic 71, 3) := by decide +kernel
theorem dJ2_indexOfCharUnsafe_4cfef_15 : decode cJ2_indexOfCharUnsafe_4cfef 15 = .ok (.iload_n 1, 1) := by decide +kernel
theorem dJ2_indexOfCharUnsafe_4cfef_16 : decode cJ2_indexOfCharUnsafe_4cfef 16 = .ok (.if_icmp .ne 6, 3) := by decide +kernel
theorem dJ2_indexOfCharUnsafe_4cfef_19 : decode cJ2_indexOfCharUnsafe_4cfef 19 = .ok (.iload 4, 2) := by decide +kernel
theorem dJ2_indexOfCharUnsafe_4cfef_21 : decode cJ2_indexOfCharUnsafe_4cfef 21 = .ok (.ireturn, 1) := by decide +kernel
theorem dJ2_indexOfCharUnsafe_4cfef_22 : decode cJ2_indexOfCharUnsafe_4cfef 22 = .ok (.iinc 4 1, 3) := by decide +kernel
theorem dJ2_indexOfCharUnsafe_4cfef_25 : decode cJ2_indexOfCharUnsafe_4cfef 25 = .ok (.goto (-22), 3) := by decide +kernel
theorem dJ2_indexOfCharUnsafe_4cfef_28 : decode cJ2_indexOfCharUnsafe_4cfef 28 = .ok (.iconst (-1), 1) := by decide +kernel
theorem dJ2_indexOfCharUnsafe_4cfef_29 : decode cJ2_indexOfCharUnsafe_4cfef 29 = .ok (.ireturn, 1) := by decide +kernel
theorem dJ2_indexOfSupplementary_4cfef_0 : decode cJ2_indexOfSupplementary_4cfef 0 = .ok (.iload_n 1, 1) := by decide +kernel
theorem dJ2_indexOfSupplementary_4cfef_1 : decode cJ2_indexOfSupplementary_4cfef 1 = .ok (.invokestatic 164, 3) := by decide +kernel
theorem dJ2_indexOfSupplementary_4cfef_4 : decode cJ2_indexOfSupplementary_4cfef 4 = .ok (.ifCond .eq 65, 3) := by decide +kernel
theorem dJ2_indexOfSupplementary_4cfef_7 : decode cJ2_indexOfSupplementary_4cfef 7 = .ok (.iload_n 1, 1) := by decide +kernel
theorem dJ2_indexOfSupplementary_4cfef_8 : decode cJ2_indexOfSupplementary_4cfef 8 = .ok (.invokestatic 157, 3) := by decide +kernel
theorem dJ2_indexOfSupplementary_4cfef_11 : decode cJ2_indexOfSupplementary_4cfef 11 = .ok (.istore 4, 2) := by decide +kernel
theorem dJ2_indexOfSupplementary_4cfef_13 : decode cJ2_indexOfSupplementary_4cfef 13 = .ok (.iload_n 1, 1) := by decide +kernel
theorem dJ2_indexOfSupplementary_4cfef_14 : decode cJ2_indexOfSupplementary_4cfef 14 = .ok (.invokestatic 161, 3) := by decide +kernel
theorem dJ2_indexOfSupplementary_4cfef_17 : decode cJ2_indexOfSupplementary_4cfef 17 = .ok (.istore 5, 2) := by decide +kernel
theorem dJ2_indexOfSupplementary_4cfef_19 : decode cJ2_indexOfSupplementary_4cfef 19 = .ok (.iload_n 2, 1) := by decide +kernel
theorem dJ2_indexOfSupplementary_4cfef_20 : decode cJ2_indexOfSupplementary_4cfef 20 = .ok (.iload_n 3, 1) := by decide +kernel
theorem dJ2_indexOfSupplementary_4cfef_21 : decode cJ2_indexOfSupplementary_4cfef 21 = .ok (.aload_n 0, 1) := by decide +kernel
theorem dJ2_indexOfSupplementary_4cfef_22 : decode cJ2_indexOfSupplementary_4cfef 22 = .ok (.invokestatic 96, 3) := by decide +kernel
theorem dJ2_indexOfSupplementary_4cfef_25 : decode cJ2_indexOfSupplementary_4cfef 25 = .ok (.iload_n 2, 1) := by decide +kernel
theorem dJ2_indexOfSupplementary_4cfef_26 : decode cJ2_indexOfSupplementary_4cfef 26 = .ok (.istore 6, 2) := by decide +kernel
theorem dJ2_indexOfSupplementary_4cfef_28 : decode cJ2_indexOfSupplementary_4cfef 28 = .ok (.iload 6, 2) := by decide +kernel
theorem dJ2_indexOfSupplementary_4cfef_30 : decode cJ2_indexOfSupplementary_4cfef 30 = .ok (.iload_n 3, 1) := by decide +kernel
theorem dJ2_indexOfSupplementary_4cfef_31 : decode cJ2_indexOfSupplementary_4cfef 31 = .ok (.iconst 1, 1) := by decide +kernel
theorem dJ2_indexOfSupplementary_4cfef_32 : decode cJ2_indexOfSupplementary_4cfef 32 = .ok (.isub, 1) := by decide +kernel
theorem dJ2_indexOfSupplementary_4cfef_33 : decode cJ2_indexOfSupplementary_4cfef 33 = .ok (.if_icmp .ge 36, 3) := by decide +kernel
theorem dJ2_indexOfSupplementary_4cfef_36 : decode cJ2_indexOfSupplementary_4cfef 36 = .ok (.aload_n 0, 1) := by decide +kernel
theorem dJ2_indexOfSupplementary_4cfef_37 : decode cJ2_indexOfSupplementary_4cfef 37 = .ok (.iload 6, 2) := by decide +kernel
theorem dJ2_indexOfSupplementary_4cfef_39 : decode cJ2_indexOfSupplementary_4cfef 39 = .ok (.invokestatic 71, 3) := by decide +kernel
theorem dJ2_indexOfSupplementary_4cfef_42 : decode cJ2_indexOfSupplementary_4cfef 42 = .ok (.iload 4, 2) := by decide +kernel
theorem dJ2_indexOfSupplementary_4cfef_44 : decode cJ2_indexOfSupplementary_4cfef 44 = .ok (.if_icmp .ne 19, 3) := by decide +kernel
theorem dJ2_indexOfSupplementary_4cfef_47 : decode cJ2_indexOfSupplementary_4cfef 47 = .ok (.aload_n 0, 1) := by decide +kernel
theorem dJ2_indexOfSupplementary_4cfef_48 : decode cJ2_indexOfSupplementary_4cfef 48 = .ok (.iload 6, 2) := by decide +kernel
theorem dJ2_indexOfSupplementary_4cfef_50 : decode cJ2_indexOfSupplementary_4cfef 50 = .ok (.iconst 1, 1) := by decide +kernel
theorem dJ2_indexOfSupplementary_4cfef_51 : decode cJ2_indexOfSupplementary_4cfef 51 = .ok (.iadd, 1) := by decide +kernel
theorem dJ2_indexOfSupplementary_4cfef_52 : decode cJ2_indexOfSupplementary_4cfef 52 = .ok (.invokestatic 71, 3) := by decide +kernel
theorem dJ2_indexOfSupplementary_4cfef_55 : decode cJ2_indexOfSupplementary_4cfef 55 = .ok (.iload 5, 2) := by decide +kernel
theorem dJ2_indexOfSupplementary_4cfef_57 : decode cJ2_indexOfSupplementary_4cfef 57 = .ok (.if_icmp .ne 6, 3) := by decide +kernel
theorem dJ2_indexOfSupplementary_4cfef_60 : decode cJ2_indexOfSupplementary_4cfef 60 = .ok (.iload 6, 2) := by decide +kernel
theorem dJ2_indexOfSupplementary_4cfef_62 : decode cJ2_indexOfSupplementary_4cfef 62 = .ok (.ireturn, 1) := by decide +kernel
theorem dJ2_indexOfSupplementary_4cfef_63 : decode cJ2_indexOfSupplementary_4cfef 63 = .ok (.iinc 6 1, 3) := by decide +kernel
theorem dJ2_indexOfSupplementary_4cfef_66 : decode cJ2_indexOfSupplementary_4cfef 66 = .ok (.goto (-38), 3) := by decide +kernel
theorem dJ2_indexOfSupplementary_4cfef_69 : decode cJ2_indexOfSupplementary_4cfef 69 = .ok (.iconst (-1), 1) := by decide +kernel
theorem dJ2_indexOfSupplementary_4cfef_70 : decode cJ2_indexOfSupplementary_4cfef 70 = .ok (.ireturn, 1) := by decide +kernel
theorem dJ2_charAt_3b067_0 : decode cJ2_charAt_3b067 0 = .ok (.iload_n 1, 1) := by decide +kernel
theorem dJ2_charAt_3b067_1 : decode cJ2_charAt_3b067 1 = .ok (.aload_n 0, 1) := by decide +kernel
theorem dJ2_charAt_3b067_2 : decode cJ2_charAt_3b067 2 = .ok (.invokestatic 67, 3) := by decide +kernel
theorem dJ2_charAt_3b067_5 : decode cJ2_charAt_3b067 5 = .ok (.aload_n 0, 1) := by decide +kernel
theorem dJ2_charAt_3b067_6 : decode cJ2_charAt_3b067 6 = .ok (.iload_n 1, 1) := by decide +kernel
theorem dJ2_charAt_3b067_7 : decode cJ2_charAt_3b067 7 = .ok (.invokestatic 71, 3) := by decide +kernel
theorem dJ2_charAt_3b067_10 : decode cJ2_charAt_3b067 10 = .ok (.ireturn, 1) := by decide +kernel
theorem dJ2_checkIndex_2214a_0 : decode cJ2_checkIndex_2214a 0 = .ok (.iload_n 0, 1) := by decide +kernel
theorem dJ2_checkIndex_2214a_1 : decode cJ2_checkIndex_2214a 1 = .ok (.aload_n 1, 1) := by decide +kernel
theorem dJ2_checkIndex_2214a_2 : decode cJ2_checkIndex_2214a 2 = .ok (.invokestatic 48, 3) := by decide +kernel
theorem dJ2_checkIndex_2214a_5 : decode cJ2_checkIndex_2214a 5 = .ok (.invokestatic 414, 3) := by decide +kernel
theorem dJ2_checkIndex_2214a_8 : decode cJ2_checkIndex_2214a 8 = .ok (.return_, 1) := by decide +kernel
theorem dJ2_checkBoundsBeginEnd_d044e_0 : decode cJ2_checkBoundsBeginEnd_d044e 0 = .ok (.iload_n 0, 1) := by decide +kernel
theorem dJ2_checkBoundsBeginEnd_d044e_1 : decode cJ2_checkBoundsBeginEnd_d044e 1 = .ok (.iload_n 1, 1) := by decide +kernel
theorem dJ2_checkBoundsBeginEnd_d044e_2 : decode cJ2_checkBoundsBeginEnd_d044e 2 = .ok (.aload_n 2, 1) := by decide +kernel
theorem dJ2_checkBoundsBeginEnd_d044e_3 : decode cJ2_checkBoundsBeginEnd_d044e 3 = .ok (.invokestatic 48, 3) := by decide +kernel
theorem dJ2_checkBoundsBeginEnd_d044e_6 : decode cJ2_checkBoundsBeginEnd_d044e 6 = .ok (.invokestatic 241, 3) := by decide +kernel
theorem dJ2_checkBoundsBeginEnd_d044e_9 : decode cJ2_checkBoundsBeginEnd_d044e 9 = .ok (.return_, 1) := by decide +kernel
theorem dJ7_fill_53178_0 : decode cJ7_fill_53178 0 = .ok (.iconst 0, 1) := by decide +kernel
theorem dJ7_fill_53178_1 : decode cJ7_fill_53178 1 = .ok (.istore_n 2, 1) := by decide +kernel
theorem dJ7_fill_53178_2 : decode cJ7_fill_53178 2 = .ok (.aload_n 0, 1) := by decide +kernel
theorem dJ7_fill_53178_3 : decode cJ7_fill_53178 3 = .ok (.arraylength, 1) := by decide +kernel
theorem dJ7_fill_53178_4 : decode cJ7_fill_53178 4 = .ok (.istore_n 3, 1) := by decide +kernel
theorem dJ7_fill_53178_5 : decode cJ7_fill_53178 5 = .ok (.iload_n 2, 1) := by decide +kernel
theorem dJ7_fill_53178_6 : decode cJ7_fill_53178 6 = .ok (.iload_n 3, 1) := by decide +kernel
theorem dJ7_fill_53178_7 : decode cJ7_fill_53178 7 = .ok (.if_icmp .ge 13, 3) := by decide +kernel
theorem dJ7_fill_53178_10 : decode cJ7_fill_53178 10 = .ok (.aload_n 0, 1) := by decide +kernel
theorem dJ7_fill_53178_11 : decode cJ7_fill_53178 11 = .ok (.iload_n 2, 1) := by decide +kernel
theorem dJ7_fill_53178_12 : decode cJ7_fill_53178 12 = .ok (.iload_n 1, 1) := by decide +kernel
theorem dJ7_fill_53178_13 : decode cJ7_fill_53178 13 = .ok (.iastore, 1) := by decide +kernel
theorem dJ7_fill_53178_14 : decode cJ7_fill_53178 14 = .ok (.iinc 2 1, 3) := by decide +kernel
theorem dJ7_fill_53178_17 : decode cJ7_fill_53178 17 = .ok (.goto (-12), 3) := by decide +kernel
theorem dJ7_fill_53178_20 : decode cJ7_fill_53178 20 = .ok (.return_, 1) := by decide +kernel
theorem dJ3_checkIndex_8e157_0 : decode cJ3_checkIndex_8e157 0 = .ok (.iload_n 0, 1) := by decide +kernel
theorem dJ3_checkIndex_8e157_1 : decode cJ3_checkIndex_8e157 1 = .ok (.ifCond .lt 8, 3) := by decide +kernel
theorem dJ3_checkIndex_8e157_4 : decode cJ3_checkIndex_8e157 4 = .ok (.iload_n 0, 1) := by decide +kernel
theorem dJ3_checkIndex_8e157_5 : decode cJ3_checkIndex_8e157 5 = .ok (.iload_n 1, 1) := by decide +kernel
theorem dJ3_checkIndex_8e157_6 : decode cJ3_checkIndex_8e157 6 = .ok (.if_icmp .lt 10, 3) := by decide +kernel
theorem dJ3_checkIndex_8e157_9 : decode cJ3_checkIndex_8e157 9 = .ok (.aload_n 2, 1) := by decide +kernel
theorem dJ3_checkIndex_8e157_10 : decode cJ3_checkIndex_8e157 10 = .ok (.iload_n 0, 1) := by decide +kernel
theorem dJ3_checkIndex_8e157_11 : decode cJ3_checkIndex_8e157 11 = .ok (.iload_n 1, 1) := by decide +kernel
theorem dJ3_checkIndex_8e157_12 : decode cJ3_checkIndex_8e157 12 = .ok (.invokestatic 95, 3) := by decide +kernel
theorem dJ3_checkIndex_8e157_15 : decode cJ3_checkIndex_8e157 15 = .ok (.athrow, 1) := by decide +kernel
theorem dJ3_checkIndex_8e157_16 : decode cJ3_checkIndex_8e157 16 = .ok (.iload_n 0, 1) := by decide +kernel
theorem dJ3_checkIndex_8e157_17 : decode cJ3_checkIndex_8e157 17 = .ok (.ireturn, 1) := by decide +kernel
theorem dJ3_checkFromToIndex_8c36e_0 : decode cJ3_checkFromToIndex_8c36e 0 = .ok (.iload_n 0, 1) := by decide +kernel
theorem dJ3_checkFromToIndex_8c36e_1 : decode cJ3_checkFromToIndex_8c36e 1 = .ok (.ifCond .lt 13, 3) := by decide +kernel
theorem dJ3_checkFromToIndex_8c36e_4 : decode cJ3_checkFromToIndex_8c36e 4 = .ok (.iload_n 0, 1) := by decide +kernel
theorem dJ3_checkFromToIndex_8c36e_5 : decode cJ3_checkFromToIndex_8c36e 5 = .ok (.iload_n 1, 1) := by decide +kernel
theorem dJ3_checkFromToIndex_8c36e_6 : decode cJ3_checkFromToIndex_8c36e 6 = .ok (.if_icmp .gt 8, 3) := by decide +kernel
theorem dJ3_checkFromToIndex_8c36e_9 : decode cJ3_checkFromToIndex_8c36e 9 = .ok (.iload_n 1, 1) := by decide +kernel
theorem dJ3_checkFromToIndex_8c36e_10 : decode cJ3_checkFromToIndex_8c36e 10 = .ok (.iload_n 2, 1) := by decide +kernel
theorem dJ3_checkFromToIndex_8c36e_11 : decode cJ3_checkFromToIndex_8c36e 11 = .ok (.if_icmp .le 11, 3) := by decide +kernel
theorem dJ3_checkFromToIndex_8c36e_14 : decode cJ3_checkFromToIndex_8c36e 14 = .ok (.aload_n 3, 1) := by decide +kernel
theorem dJ3_checkFromToIndex_8c36e_15 : decode cJ3_checkFromToIndex_8c36e 15 = .ok (.iload_n 0, 1) := by decide +kernel
theorem dJ3_checkFromToIndex_8c36e_16 : decode cJ3_checkFromToIndex_8c36e 16 = .ok (.iload_n 1, 1) := by decide +kernel
theorem dJ3_checkFromToIndex_8c36e_17 : decode cJ3_checkFromToIndex_8c36e 17 = .ok (.iload_n 2, 1) := by decide +kernel
theorem dJ3_checkFromToIndex_8c36e_18 : decode cJ3_checkFromToIndex_8c36e 18 = .ok (.invokestatic 99, 3) := by decide +kernel
theorem dJ3_checkFromToIndex_8c36e_21 : decode cJ3_checkFromToIndex_8c36e 21 = .ok (.athrow, 1) := by decide +kernel
theorem dJ3_checkFromToIndex_8c36e_22 : decode cJ3_checkFromToIndex_8c36e 22 = .ok (.iload_n 0, 1) := by decide +kernel
theorem dJ3_checkFromToIndex_8c36e_23 : decode cJ3_checkFromToIndex_8c36e 23 = .ok (.ireturn, 1) := by decide +kernel
theorem dL_law_0 : decode code 0 = .ok (.new 7, 3) := by decide +kernel
theorem dL_law_3 : decode code 3 = .ok (.dup, 1) := by decide +kernel
theorem dL_law_4 : decode code 4 = .ok (.invokespecial 9, 3) := by decide +kernel
theorem dL_law_7 : decode code 7 = .ok (.astore_n 1, 1) := by decide +kernel
theorem dL_law_8 : decode code 8 = .ok (.new 10, 3) := by decide +kernel
theorem dL_law_11 : decode code 11 = .ok (.dup, 1) := by decide +kernel
theorem dL_law_12 : decode code 12 = .ok (.invokespecial 12, 3) := by decide +kernel
theorem dL_law_15 : decode code 15 = .ok (.astore_n 2, 1) := by decide +kernel
theorem dL_law_16 : decode code 16 = .ok (.iconst 0, 1) := by decide +kernel
theorem dL_law_17 : decode code 17 = .ok (.istore_n 3, 1) := by decide +kernel
theorem dL_law_18 : decode code 18 = .ok (.iload_n 3, 1) := by decide +kernel
theorem dL_law_19 : decode code 19 = .ok (.aload_n 0, 1) := by decide +kernel
theorem dL_law_20 : decode code 20 = .ok (.arraylength, 1) := by decide +kernel
theorem dL_law_21 : decode code 21 = .ok (.bipush 6, 2) := by decide +kernel
theorem dL_law_23 : decode code 23 = .ok (.isub, 1) := by decide +kernel
theorem dL_law_24 : decode code 24 = .ok (.if_icmp .gt 1296, 3) := by decide +kernel
theorem dL_law_27 : decode code 27 = .ok (.aload_n 0, 1) := by decide +kernel
theorem dL_law_28 : decode code 28 = .ok (.iload_n 3, 1) := by decide +kernel
theorem dL_law_29 : decode code 29 = .ok (.iaload, 1) := by decide +kernel
theorem dL_law_30 : decode code 30 = .ok (.bipush 63, 2) := by decide +kernel
theorem dL_law_32 : decode code 32 = .ok (.iand, 1) := by decide +kernel
theorem dL_law_33 : decode code 33 = .ok (.tableswitch 1281 0 39 #[175, 238, 261, 274, 287, 320, 353, 386, 419, 462, 485, 518, 551, 574, 597, 610, 633, 656, 689, 702, 735, 748, 771, 804, 817, 840, 873, 906, 919, 942, 965, 998, 1031, 1074, 1133, 1146, 1179, 1212, 1235, 1258], 175) := by decide +kernel
theorem dL_law_208 : decode code 208 = .ok (.aload_n 1, 1) := by decide +kernel
theorem dL_law_209 : decode code 209 = .ok (.aload_n 0, 1) := by decide +kernel
theorem dL_law_210 : decode code 210 = .ok (.iload_n 3, 1) := by decide +kernel
theorem dL_law_211 : decode code 211 = .ok (.iconst 1, 1) := by decide +kernel
theorem dL_law_212 : decode code 212 = .ok (.iadd, 1) := by decide +kernel
theorem dL_law_213 : decode code 213 = .ok (.iaload, 1) := by decide +kernel
theorem dL_law_214 : decode code 214 = .ok (.aload_n 0, 1) := by decide +kernel
theorem dL_law_215 : decode code 215 = .ok (.iload_n 3, 1) := by decide +kernel
theorem dL_law_216 : decode code 216 = .ok (.iconst 2, 1) := by decide +kernel
theorem dL_law_217 : decode code 217 = .ok (.iadd, 1) := by decide +kernel
theorem dL_law_218 : decode code 218 = .ok (.iaload, 1) := by decide +kernel
theorem dL_law_219 : decode code 219 = .ok (.aload_n 0, 1) := by decide +kernel
theorem dL_law_220 : decode code 220 = .ok (.iload_n 3, 1) := by decide +kernel
theorem dL_law_221 : decode code 221 = .ok (.iconst 3, 1) := by decide +kernel
theorem dL_law_222 : decode code 222 = .ok (.iadd, 1) := by decide +kernel
theorem dL_law_223 : decode code 223 = .ok (.iaload, 1) := by decide +kernel
theorem dL_law_224 : decode code 224 = .ok (.aload_n 0, 1) := by decide +kernel
theorem dL_law_225 : decode code 225 = .ok (.iload_n 3, 1) := by decide +kernel
theorem dL_law_226 : decode code 226 = .ok (.iconst 4, 1) := by decide +kernel
theorem dL_law_227 : decode code 227 = .ok (.iadd, 1) := by decide +kernel
theorem dL_law_228 : decode code 228 = .ok (.iaload, 1) := by decide +kernel
theorem dL_law_229 : decode code 229 = .ok (.aload_n 0, 1) := by decide +kernel
theorem dL_law_230 : decode code 230 = .ok (.iload_n 3, 1) := by decide +kernel
theorem dL_law_231 : decode code 231 = .ok (.iconst 5, 1) := by decide +kernel
theorem dL_law_232 : decode code 232 = .ok (.iadd, 1) := by decide +kernel
theorem dL_law_233 : decode code 233 = .ok (.iaload, 1) := by decide +kernel
theorem dL_law_234 : decode code 234 = .ok (.invokevirtual 13, 3) := by decide +kernel
theorem dL_law_237 : decode code 237 = .ok (.aload_n 2, 1) := by decide +kernel
theorem dL_law_238 : decode code 238 = .ok (.aload_n 0, 1) := by decide +kernel
theorem dL_law_239 : decode code 239 = .ok (.iload_n 3, 1) := by decide +kernel
theorem dL_law_240 : decode code 240 = .ok (.iconst 1, 1) := by decide +kernel
theorem dL_law_241 : decode code 241 = .ok (.iadd, 1) := by decide +kernel
theorem dL_law_242 : decode code 242 = .ok (.iaload, 1) := by decide +kernel
theorem dL_law_243 : decode code 243 = .ok (.aload_n 0, 1) := by decide +kernel
theorem dL_law_244 : decode code 244 = .ok (.iload_n 3, 1) := by decide +kernel
theorem dL_law_245 : decode code 245 = .ok (.iconst 2, 1) := by decide +kernel
theorem dL_law_246 : decode code 246 = .ok (.iadd, 1) := by decide +kernel
theorem dL_law_247 : decode code 247 = .ok (.iaload, 1) := by decide +kernel
theorem dL_law_248 : decode code 248 = .ok (.aload_n 0, 1) := by decide +kernel
theorem dL_law_249 : decode code 249 = .ok (.iload_n 3, 1) := by decide +kernel
theorem dL_law_250 : decode code 250 = .ok (.iconst 3, 1) := by decide +kernel
theorem dL_law_251 : decode code 251 = .ok (.iadd, 1) := by decide +kernel
theorem dL_law_252 : decode code 252 = .ok (.iaload, 1) := by decide +kernel
theorem dL_law_253 : decode code 253 = .ok (.aload_n 0, 1) := by decide +kernel
theorem dL_law_254 : decode code 254 = .ok (.iload_n 3, 1) := by decide +kernel
theorem dL_law_255 : decode code 255 = .ok (.iconst 4, 1) := by decide +kernel
theorem dL_law_256 : decode code 256 = .ok (.iadd, 1) := by decide +kernel
theorem dL_law_257 : decode code 257 = .ok (.iaload, 1) := by decide +kernel
theorem dL_law_258 : decode code 258 = .ok (.aload_n 0, 1) := by decide +kernel
theorem dL_law_259 : decode code 259 = .ok (.iload_n 3, 1) := by decide +kernel
theorem dL_law_260 : decode code 260 = .ok (.iconst 5, 1) := by decide +kernel
theorem dL_law_261 : decode code 261 = .ok (.iadd, 1) := by decide +kernel
theorem dL_law_262 : decode code 262 = .ok (.iaload, 1) := by decide +kernel
theorem dL_law_263 : decode code 263 = .ok (.invokevirtual 17, 3) := by decide +kernel
theorem dL_law_266 : decode code 266 = .ok (.if_icmp .eq 1048, 3) := by decide +kernel
theorem dL_law_269 : decode code 269 = .ok (.iconst 0, 1) := by decide +kernel
theorem dL_law_270 : decode code 270 = .ok (.ireturn, 1) := by decide +kernel
theorem dL_law_271 : decode code 271 = .ok (.aload_n 1, 1) := by decide +kernel
theorem dL_law_272 : decode code 272 = .ok (.aload_n 0, 1) := by decide +kernel
theorem dL_law_273 : decode code 273 = .ok (.iload_n 3, 1) := by decide +kernel
theorem dL_law_274 : decode code 274 = .ok (.iconst 1, 1) := by decide +kernel
theorem dL_law_275 : decode code 275 = .ok (.iadd, 1) := by decide +kernel
theorem dL_law_276 : decode code 276 = .ok (.iaload, 1) := by decide +kernel
theorem dL_law_277 : decode code 277 = .ok (.invokevirtual 18, 3) := by decide +kernel
theorem dL_law_280 : decode code 280 = .ok (.aload_n 2, 1) := by decide +kernel
theorem dL_law_281 : decode code 281 = .ok (.aload_n 0, 1) := by decide +kernel
theorem dL_law_282 : decode code 282 = .ok (.iload_n 3, 1) := by decide +kernel
theorem dL_law_283 : decode code 283 = .ok (.iconst 1, 1) := by decide +kernel
theorem dL_law_284 : decode code 284 = .ok (.iadd, 1) := by decide +kernel
theorem dL_law_285 : decode code 285 = .ok (.iaload, 1) := by decide +kernel
theorem dL_law_286 : decode code 286 = .ok (.invokevirtual 22, 3) := by decide +kernel
theorem dL_law_289 : decode code 289 = .ok (.if_icmp .eq 1025, 3) := by decide +kernel
theorem dL_law_292 : decode code 292 = .ok (.iconst 0, 1) := by decide +kernel
theorem dL_law_293 : decode code 293 = .ok (.ireturn, 1) := by decide +kernel
theorem dL_law_294 : decode code 294 = .ok (.aload_n 1, 1) := by decide +kernel
theorem dL_law_295 : decode code 295 = .ok (.invokevirtual 23, 3) := by decide +kernel
theorem dL_law_298 : decode code 298 = .ok (.aload_n 2, 1) := by decide +kernel
theorem dL_law_299 : decode code 299 = .ok (.invokevirtual 27, 3) := by decide +kernel
theorem dL_law_302 : decode code 302 = .ok (.if_icmp .eq 1012, 3) := by decide +kernel
theorem dL_law_305 : decode code 305 = .ok (.iconst 0, 1) := by decide +kernel
theorem dL_law_306 : decode code 306 = .ok (.ireturn, 1) := by decide +kernel
theorem dL_law_307 : decode code 307 = .ok (.aload_n 1, 1) := by decide +kernel
theorem dL_law_308 : decode code 308 = .ok (.invokevirtual 28, 3) := by decide +kernel
theorem dL_law_311 : decode code 311 = .ok (.aload_n 2, 1) := by decide +kernel
theorem dL_law_312 : decode code 312 = .ok (.invokevirtual 31, 3) := by decide +kernel
theorem dL_law_315 : decode code 315 = .ok (.if_icmp .eq 999, 3) := by decide +kernel
theorem dL_law_318 : decode code 318 = .ok (.iconst 0, 1) := by decide +kernel
theorem dL_law_319 : decode code 319 = .ok (.ireturn, 1) := by decide +kernel
theorem dL_law_320 : decode code 320 = .ok (.aload_n 1, 1) := by decide +kernel
theorem dL_law_321 : decode code 321 = .ok (.aload_n 0, 1) := by decide +kernel
theorem dL_law_322 : decode code 322 = .ok (.iload_n 3, 1) := by decide +kernel
theorem dL_law_323 : decode code 323 = .ok (.iconst 1, 1) := by decide +kernel
theorem dL_law_324 : decode code 324 = .ok (.iadd, 1) := by decide +kernel
theorem dL_law_325 : decode code 325 = .ok (.iaload, 1) := by decide +kernel
theorem dL_law_326 : decode code 326 = .ok (.aload_n 0, 1) := by decide +kernel
theorem dL_law_327 : decode code 327 = .ok (.iload_n 3, 1) := by decide +kernel
theorem dL_law_328 : decode code 328 = .ok (.iconst 2, 1) := by decide +kernel
theorem dL_law_329 : decode code 329 = .ok (.iadd, 1) := by decide +kernel
theorem dL_law_330 : decode code 330 = .ok (.iaload, 1) := by decide +kernel
theorem dL_law_331 : decode code 331 = .ok (.invokevirtual 32, 3) := by decide +kernel
theorem dL_law_334 : decode code 334 = .ok (.aload_n 2, 1) := by decide +kernel
theorem dL_law_335 : decode code 335 = .ok (.aload_n 0, 1) := by decide +kernel
theorem dL_law_336 : decode code 336 = .ok (.iload_n 3, 1) := by decide +kernel
theorem dL_law_337 : decode code 337 = .ok (.iconst 1, 1) := by decide +kernel
theorem dL_law_338 : decode code 338 = .ok (.iadd, 1) := by decide +kernel
theorem dL_law_339 : decode code 339 = .ok (.iaload, 1) := by decide +kernel
theorem dL_law_340 : decode code 340 = .ok (.aload_n 0, 1) := by decide +kernel
theorem dL_law_341 : decode code 341 = .ok (.iload_n 3, 1) := by decide +kernel
theorem dL_law_342 : decode code 342 = .ok (.iconst 2, 1) := by decide +kernel
theorem dL_law_343 : decode code 343 = .ok (.iadd, 1) := by decide +kernel
theorem dL_law_344 : decode code 344 = .ok (.iaload, 1) := by decide +kernel
theorem dL_law_345 : decode code 345 = .ok (.invokevirtual 36, 3) := by decide +kernel
theorem dL_law_348 : decode code 348 = .ok (.if_icmp .eq 966, 3) := by decide +kernel
theorem dL_law_351 : decode code 351 = .ok (.iconst 0, 1) := by decide +kernel
theorem dL_law_352 : decode code 352 = .ok (.ireturn, 1) := by decide +kernel
theorem dL_law_353 : decode code 353 = .ok (.aload_n 1, 1) := by decide +kernel
theorem dL_law_354 : decode code 354 = .ok (.aload_n 0, 1) := by decide +kernel
theorem dL_law_355 : decode code 355 = .ok (.iload_n 3, 1) := by decide +kernel
theorem dL_law_356 : decode code 356 = .ok (.iconst 1, 1) := by decide +kernel
theorem dL_law_357 : decode code 357 = .ok (.iadd, 1) := by decide +kernel
theorem dL_law_358 : decode code 358 = .ok (.iaload, 1) := by decide +kernel
theorem dL_law_359 : decode code 359 = .ok (.aload_n 0, 1) := by decide +kernel
theorem dL_law_360 : decode code 360 = .ok (.iload_n 3, 1) := by decide +kernel
theorem dL_law_361 : decode code 361 = .ok (.iconst 2, 1) := by decide +kernel
theorem dL_law_362 : decode code 362 = .ok (.iadd, 1) := by decide +kernel
theorem dL_law_363 : decode code 363 = .ok (.iaload, 1) := by decide +kernel
theorem dL_law_364 : decode code 364 = .ok (.invokevirtual 37, 3) := by decide +kernel
theorem dL_law_367 : decode code 367 = .ok (.aload_n 2, 1) := by decide +kernel
theorem dL_law_368 : decode code 368 = .ok (.aload_n 0, 1) := by decide +kernel
theorem dL_law_369 : decode code 369 = .ok (.iload_n 3, 1) := by decide +kernel
theorem dL_law_370 : decode code 370 = .ok (.iconst 1, 1) := by decide +kernel
theorem dL_law_371 : decode code 371 = .ok (.iadd, 1) := by decide +kernel
theorem dL_law_372 : decode code 372 = .ok (.iaload, 1) := by decide +kernel
theorem dL_law_373 : decode code 373 = .ok (.aload_n 0, 1) := by decide +kernel
theorem dL_law_374 : decode code 374 = .ok (.iload_n 3, 1) := by decide +kernel
theorem dL_law_375 : decode code 375 = .ok (.iconst 2, 1) := by decide +kernel
theorem dL_law_376 : decode code 376 = .ok (.iadd, 1) := by decide +kernel
theorem dL_law_377 : decode code 377 = .ok (.iaload, 1) := by decide +kernel
theorem dL_law_378 : decode code 378 = .ok (.invokevirtual 40, 3) := by decide +kernel
theorem dL_law_381 : decode code 381 = .ok (.if_icmp .eq 933, 3) := by decide +kernel
theorem dL_law_384 : decode code 384 = .ok (.iconst 0, 1) := by decide +kernel
theorem dL_law_385 : decode code 385 = .ok (.ireturn, 1) := by decide +kernel
theorem dL_law_386 : decode code 386 = .ok (.aload_n 1, 1) := by decide +kernel
theorem dL_law_387 : decode code 387 = .ok (.aload_n 0, 1) := by decide +kernel
theorem dL_law_388 : decode code 388 = .ok (.iload_n 3, 1) := by decide +kernel
theorem dL_law_389 : decode code 389 = .ok (.iconst 1, 1) := by decide +kernel
theorem dL_law_390 : decode code 390 = .ok (.iadd, 1) := by decide +kernel
theorem dL_law_391 : decode code 391 = .ok (.iaload, 1) := by decide +kernel
theorem dL_law_392 : decode code 392 = .ok (.aload_n 0, 1) := by decide +kernel
theorem dL_law_393 : decode code 393 = .ok (.iload_n 3, 1) := by decide +kernel
theorem dL_law_394 : decode code 394 = .ok (.iconst 2, 1) := by decide +kernel
theorem dL_law_395 : decode code 395 = .ok (.iadd, 1) := by decide +kernel
theorem dL_law_396 : decode code 396 = .ok (.iaload, 1) := by decide +kernel
theorem dL_law_397 : decode code 397 = .ok (.invokevirtual 41, 3) := by decide +kernel
theorem dL_law_400 : decode code 400 = .ok (.aload_n 2, 1) := by decide +kernel
theorem dL_law_401 : decode code 401 = .ok (.aload_n 0, 1) := by decide +kernel
theorem dL_law_402 : decode code 402 = .ok (.iload_n 3, 1) := by decide +kernel
theorem dL_law_403 : decode code 403 = .ok (.iconst 1, 1) := by decide +kernel
theorem dL_law_404 : decode code 404 = .ok (.iadd, 1) := by decide +kernel
theorem dL_law_405 : decode code 405 = .ok (.iaload, 1) := by decide +kernel
theorem dL_law_406 : decode code 406 = .ok (.aload_n 0, 1) := by decide +kernel
theorem dL_law_407 : decode code 407 = .ok (.iload_n 3, 1) := by decide +kernel
theorem dL_law_408 : decode code 408 = .ok (.iconst 2, 1) := by decide +kernel
theorem dL_law_409 : decode code 409 = .ok (.iadd, 1) := by decide +kernel
theorem dL_law_410 : decode code 410 = .ok (.iaload, 1) := by decide +kernel
theorem dL_law_411 : decode code 411 = .ok (.invokevirtual 44, 3) := by decide +kernel
theorem dL_law_414 : decode code 414 = .ok (.if_icmp .eq 900, 3) := by decide +kernel
theorem dL_law_417 : decode code 417 = .ok (.iconst 0, 1) := by decide +kernel
theorem dL_law_418 : decode code 418 = .ok (.ireturn, 1) := by decide +kernel
theorem dL_law_419 : decode code 419 = .ok (.aload_n 1, 1) := by decide +kernel
theorem dL_law_420 : decode code 420 = .ok (.aload_n 0, 1) := by decide +kernel
theorem dL_law_421 : decode code 421 = .ok (.iload_n 3, 1) := by decide +kernel
theorem dL_law_422 : decode code 422 = .ok (.iconst 1, 1) := by decide +kernel
theorem dL_law_423 : decode code 423 = .ok (.iadd, 1) := by decide +kernel
theorem dL_law_424 : decode code 424 = .ok (.iaload, 1) := by decide +kernel
theorem dL_law_425 : decode code 425 = .ok (.aload_n 0, 1) := by decide +kernel
theorem dL_law_426 : decode code 426 = .ok (.iload_n 3, 1) := by decide +kernel
theorem dL_law_427 : decode code 427 = .ok (.iconst 2, 1) := by decide +kernel
theorem dL_law_428 : decode code 428 = .ok (.iadd, 1) := by decide +kernel
theorem dL_law_429 : decode code 429 = .ok (.iaload, 1) := by decide +kernel
theorem dL_law_430 : decode code 430 = .ok (.invokevirtual 45, 3) := by decide +kernel
theorem dL_law_433 : decode code 433 = .ok (.aload_n 2, 1) := by decide +kernel
theorem dL_law_434 : decode code 434 = .ok (.aload_n 0, 1) := by decide +kernel
theorem dL_law_435 : decode code 435 = .ok (.iload_n 3, 1) := by decide +kernel
theorem dL_law_436 : decode code 436 = .ok (.iconst 1, 1) := by decide +kernel
theorem dL_law_437 : decode code 437 = .ok (.iadd, 1) := by decide +kernel
theorem dL_law_438 : decode code 438 = .ok (.iaload, 1) := by decide +kernel
theorem dL_law_439 : decode code 439 = .ok (.aload_n 0, 1) := by decide +kernel
theorem dL_law_440 : decode code 440 = .ok (.iload_n 3, 1) := by decide +kernel
theorem dL_law_441 : decode code 441 = .ok (.iconst 2, 1) := by decide +kernel
theorem dL_law_442 : decode code 442 = .ok (.iadd, 1) := by decide +kernel
theorem dL_law_443 : decode code 443 = .ok (.iaload, 1) := by decide +kernel
theorem dL_law_444 : decode code 444 = .ok (.invokevirtual 48, 3) := by decide +kernel
theorem dL_law_447 : decode code 447 = .ok (.if_icmp .eq 867, 3) := by decide +kernel
theorem dL_law_450 : decode code 450 = .ok (.iconst 0, 1) := by decide +kernel
theorem dL_law_451 : decode code 451 = .ok (.ireturn, 1) := by decide +kernel
theorem dL_law_452 : decode code 452 = .ok (.aload_n 1, 1) := by decide +kernel
theorem dL_law_453 : decode code 453 = .ok (.aload_n 0, 1) := by decide +kernel
theorem dL_law_454 : decode code 454 = .ok (.iload_n 3, 1) := by decide +kernel
theorem dL_law_455 : decode code 455 = .ok (.iconst 1, 1) := by decide +kernel
theorem dL_law_456 : decode code 456 = .ok (.iadd, 1) := by decide +kernel
theorem dL_law_457 : decode code 457 = .ok (.iaload, 1) := by decide +kernel
theorem dL_law_458 : decode code 458 = .ok (.aload_n 0, 1) := by decide +kernel
theorem dL_law_459 : decode code 459 = .ok (.iload_n 3, 1) := by decide +kernel
theorem dL_law_460 : decode code 460 = .ok (.iconst 2, 1) := by decide +kernel
theorem dL_law_461 : decode code 461 = .ok (.iadd, 1) := by decide +kernel
theorem dL_law_462 : decode code 462 = .ok (.iaload, 1) := by decide +kernel
theorem dL_law_463 : decode code 463 = .ok (.aload_n 0, 1) := by decide +kernel
theorem dL_law_464 : decode code 464 = .ok (.iload_n 3, 1) := by decide +kernel
theorem dL_law_465 : decode code 465 = .ok (.iconst 3, 1) := by decide +kernel
theorem dL_law_466 : decode code 466 = .ok (.iadd, 1) := by decide +kernel
theorem dL_law_467 : decode code 467 = .ok (.iaload, 1) := by decide +kernel
theorem dL_law_468 : decode code 468 = .ok (.invokevirtual 49, 3) := by decide +kernel
theorem dL_law_471 : decode code 471 = .ok (.aload_n 2, 1) := by decide +kernel
theorem dL_law_472 : decode code 472 = .ok (.aload_n 0, 1) := by decide +kernel
theorem dL_law_473 : decode code 473 = .ok (.iload_n 3, 1) := by decide +kernel
theorem dL_law_474 : decode code 474 = .ok (.iconst 1, 1) := by decide +kernel
theorem dL_law_475 : decode code 475 = .ok (.iadd, 1) := by decide +kernel
theorem dL_law_476 : decode code 476 = .ok (.iaload, 1) := by decide +kernel
theorem dL_law_477 : decode code 477 = .ok (.aload_n 0, 1) := by decide +kernel
theorem dL_law_478 : decode code 478 = .ok (.iload_n 3, 1) := by decide +kernel
theorem dL_law_479 : decode code 479 = .ok (.iconst 2, 1) := by decide +kernel
theorem dL_law_480 : decode code 480 = .ok (.iadd, 1) := by decide +kernel
theorem dL_law_481 : decode code 481 = .ok (.iaload, 1) := by decide +kernel
theorem dL_law_482 : decode code 482 = .ok (.aload_n 0, 1) := by decide +kernel
theorem dL_law_483 : decode code 483 = .ok (.iload_n 3, 1) := by decide +kernel
theorem dL_law_484 : decode code 484 = .ok (.iconst 3, 1) := by decide +kernel
theorem dL_law_485 : decode code 485 = .ok (.iadd, 1) := by decide +kernel
theorem dL_law_486 : decode code 486 = .ok (.iaload, 1) := by decide +kernel
theorem dL_law_487 : decode code 487 = .ok (.invokevirtual 53, 3) := by decide +kernel
theorem dL_law_490 : decode code 490 = .ok (.if_icmp .eq 824, 3) := by decide +kernel
theorem dL_law_493 : decode code 493 = .ok (.iconst 0, 1) := by decide +kernel
theorem dL_law_494 : decode code 494 = .ok (.ireturn, 1) := by decide +kernel
theorem dL_law_495 : decode code 495 = .ok (.aload_n 1, 1) := by decide +kernel
theorem dL_law_496 : decode code 496 = .ok (.aload_n 0, 1) := by decide +kernel
theorem dL_law_497 : decode code 497 = .ok (.iload_n 3, 1) := by decide +kernel
theorem dL_law_498 : decode code 498 = .ok (.iconst 1, 1) := by decide +kernel
theorem dL_law_499 : decode code 499 = .ok (.iadd, 1) := by decide +kernel
theorem dL_law_500 : decode code 500 = .ok (.iaload, 1) := by decide +kernel
theorem dL_law_501 : decode code 501 = .ok (.invokevirtual 54, 3) := by decide +kernel
theorem dL_law_504 : decode code 504 = .ok (.aload_n 2, 1) := by decide +kernel
theorem dL_law_505 : decode code 505 = .ok (.aload_n 0, 1) := by decide +kernel
theorem dL_law_506 : decode code 506 = .ok (.iload_n 3, 1) := by decide +kernel
theorem dL_law_507 : decode code 507 = .ok (.iconst 1, 1) := by decide +kernel
theorem dL_law_508 : decode code 508 = .ok (.iadd, 1) := by decide +kernel
theorem dL_law_509 : decode code 509 = .ok (.iaload, 1) := by decide +kernel
theorem dL_law_510 : decode code 510 = .ok (.invokevirtual 57, 3) := by decide +kernel
theorem dL_law_513 : decode code 513 = .ok (.if_icmp .eq 801, 3) := by decide +kernel
theorem dL_law_516 : decode code 516 = .ok (.iconst 0, 1) := by decide +kernel
theorem dL_law_517 : decode code 517 = .ok (.ireturn, 1) := by decide +kernel
theorem dL_law_518 : decode code 518 = .ok (.aload_n 1, 1) := by decide +kernel
theorem dL_law_519 : decode code 519 = .ok (.aload_n 0, 1) := by decide +kernel
theorem dL_law_520 : decode code 520 = .ok (.iload_n 3, 1) := by decide +kernel
theorem dL_law_521 : decode code 521 = .ok (.iconst 1, 1) := by decide +kernel
theorem dL_law_522 : decode code 522 = .ok (.iadd, 1) := by decide +kernel
theorem dL_law_523 : decode code 523 = .ok (.iaload, 1) := by decide +kernel
theorem dL_law_524 : decode code 524 = .ok (.aload_n 0, 1) := by decide +kernel
theorem dL_law_525 : decode code 525 = .ok (.iload_n 3, 1) := by decide +kernel
theorem dL_law_526 : decode code 526 = .ok (.iconst 2, 1) := by decide +kernel
theorem dL_law_527 : decode code 527 = .ok (.iadd, 1) := by decide +kernel
theorem dL_law_528 : decode code 528 = .ok (.iaload, 1) := by decide +kernel
theorem dL_law_529 : decode code 529 = .ok (.invokevirtual 58, 3) := by decide +kernel
theorem dL_law_532 : decode code 532 = .ok (.aload_n 2, 1) := by decide +kernel
theorem dL_law_533 : decode code 533 = .ok (.aload_n 0, 1) := by decide +kernel
theorem dL_law_534 : decode code 534 = .ok (.iload_n 3, 1) := by decide +kernel
theorem dL_law_535 : decode code 535 = .ok (.iconst 1, 1) := by decide +kernel
theorem dL_law_536 : decode code 536 = .ok (.iadd, 1) := by decide +kernel
theorem dL_law_537 : decode code 537 = .ok (.iaload, 1) := by decide +kernel
theorem dL_law_538 : decode code 538 = .ok (.aload_n 0, 1) := by decide +kernel
theorem dL_law_539 : decode code 539 = .ok (.iload_n 3, 1) := by decide +kernel
theorem dL_law_540 : decode code 540 = .ok (.iconst 2, 1) := by decide +kernel
theorem dL_law_541 : decode code 541 = .ok (.iadd, 1) := by decide +kernel
theorem dL_law_542 : decode code 542 = .ok (.iaload, 1) := by decide +kernel
theorem dL_law_543 : decode code 543 = .ok (.invokevirtual 61, 3) := by decide +kernel
theorem dL_law_546 : decode code 546 = .ok (.if_icmp .eq 768, 3) := by decide +kernel
theorem dL_law_549 : decode code 549 = .ok (.iconst 0, 1) := by decide +kernel
theorem dL_law_550 : decode code 550 = .ok (.ireturn, 1) := by decide +kernel
theorem dL_law_551 : decode code 551 = .ok (.aload_n 1, 1) := by decide +kernel
theorem dL_law_552 : decode code 552 = .ok (.aload_n 0, 1) := by decide +kernel
theorem dL_law_553 : decode code 553 = .ok (.iload_n 3, 1) := by decide +kernel
theorem dL_law_554 : decode code 554 = .ok (.iconst 1, 1) := by decide +kernel
theorem dL_law_555 : decode code 555 = .ok (.iadd, 1) := by decide +kernel
theorem dL_law_556 : decode code 556 = .ok (.iaload, 1) := by decide +kernel
theorem dL_law_557 : decode code 557 = .ok (.aload_n 0, 1) := by decide +kernel
theorem dL_law_558 : decode code 558 = .ok (.iload_n 3, 1) := by decide +kernel
theorem dL_law_559 : decode code 559 = .ok (.iconst 2, 1) := by decide +kernel
theorem dL_law_560 : decode code 560 = .ok (.iadd, 1) := by decide +kernel
theorem dL_law_561 : decode code 561 = .ok (.iaload, 1) := by decide +kernel
theorem dL_law_562 : decode code 562 = .ok (.invokevirtual 62, 3) := by decide +kernel
theorem dL_law_565 : decode code 565 = .ok (.aload_n 2, 1) := by decide +kernel
theorem dL_law_566 : decode code 566 = .ok (.aload_n 0, 1) := by decide +kernel
theorem dL_law_567 : decode code 567 = .ok (.iload_n 3, 1) := by decide +kernel
theorem dL_law_568 : decode code 568 = .ok (.iconst 1, 1) := by decide +kernel
theorem dL_law_569 : decode code 569 = .ok (.iadd, 1) := by decide +kernel
theorem dL_law_570 : decode code 570 = .ok (.iaload, 1) := by decide +kernel
theorem dL_law_571 : decode code 571 = .ok (.aload_n 0, 1) := by decide +kernel
theorem dL_law_572 : decode code 572 = .ok (.iload_n 3, 1) := by decide +kernel
theorem dL_law_573 : decode code 573 = .ok (.iconst 2, 1) := by decide +kernel
theorem dL_law_574 : decode code 574 = .ok (.iadd, 1) := by decide +kernel
theorem dL_law_575 : decode code 575 = .ok (.iaload, 1) := by decide +kernel
theorem dL_law_576 : decode code 576 = .ok (.invokevirtual 66, 3) := by decide +kernel
theorem dL_law_579 : decode code 579 = .ok (.if_icmp .eq 735, 3) := by decide +kernel
theorem dL_law_582 : decode code 582 = .ok (.iconst 0, 1) := by decide +kernel
theorem dL_law_583 : decode code 583 = .ok (.ireturn, 1) := by decide +kernel
theorem dL_law_584 : decode code 584 = .ok (.aload_n 1, 1) := by decide +kernel
theorem dL_law_585 : decode code 585 = .ok (.aload_n 0, 1) := by decide +kernel
theorem dL_law_586 : decode code 586 = .ok (.iload_n 3, 1) := by decide +kernel
theorem dL_law_587 : decode code 587 = .ok (.iconst 1, 1) := by decide +kernel
theorem dL_law_588 : decode code 588 = .ok (.iadd, 1) := by decide +kernel
theorem dL_law_589 : decode code 589 = .ok (.iaload, 1) := by decide +kernel
theorem dL_law_590 : decode code 590 = .ok (.invokevirtual 67, 3) := by decide +kernel
theorem dL_law_593 : decode code 593 = .ok (.aload_n 2, 1) := by decide +kernel
theorem dL_law_594 : decode code 594 = .ok (.aload_n 0, 1) := by decide +kernel
theorem dL_law_595 : decode code 595 = .ok (.iload_n 3, 1) := by decide +kernel
theorem dL_law_596 : decode code 596 = .ok (.iconst 1, 1) := by decide +kernel
theorem dL_law_597 : decode code 597 = .ok (.iadd, 1) := by decide +kernel
theorem dL_law_598 : decode code 598 = .ok (.iaload, 1) := by decide +kernel
theorem dL_law_599 : decode code 599 = .ok (.invokevirtual 71, 3) := by decide +kernel
theorem dL_law_602 : decode code 602 = .ok (.if_icmp .eq 712, 3) := by decide +kernel
theorem dL_law_605 : decode code 605 = .ok (.iconst 0, 1) := by decide +kernel
theorem dL_law_606 : decode code 606 = .ok (.ireturn, 1) := by decide +kernel
theorem dL_law_607 : decode code 607 = .ok (.aload_n 1, 1) := by decide +kernel
theorem dL_law_608 : decode code 608 = .ok (.aload_n 0, 1) := by decide +kernel
theorem dL_law_609 : decode code 609 = .ok (.iload_n 3, 1) := by decide +kernel
theorem dL_law_610 : decode code 610 = .ok (.iconst 1, 1) := by decide +kernel
theorem dL_law_611 : decode code 611 = .ok (.iadd, 1) := by decide +kernel
theorem dL_law_612 : decode code 612 = .ok (.iaload, 1) := by decide +kernel
theorem dL_law_613 : decode code 613 = .ok (.invokevirtual 72, 3) := by decide +kernel
theorem dL_law_616 : decode code 616 = .ok (.aload_n 2, 1) := by decide +kernel
theorem dL_law_617 : decode code 617 = .ok (.aload_n 0, 1) := by decide +kernel
theorem dL_law_618 : decode code 618 = .ok (.iload_n 3, 1) := by decide +kernel
theorem dL_law_619 : decode code 619 = .ok (.iconst 1, 1) := by decide +kernel
theorem dL_law_620 : decode code 620 = .ok (.iadd, 1) := by decide +kernel
theorem dL_law_621 : decode code 621 = .ok (.iaload, 1) := by decide +kernel
theorem dL_law_622 : decode code 622 = .ok (.invokevirtual 75, 3) := by decide +kernel
theorem dL_law_625 : decode code 625 = .ok (.if_icmp .eq 689, 3) := by decide +kernel
theorem dL_law_628 : decode code 628 = .ok (.iconst 0, 1) := by decide +kernel
theorem dL_law_629 : decode code 629 = .ok (.ireturn, 1) := by decide +kernel
theorem dL_law_630 : decode code 630 = .ok (.aload_n 1, 1) := by decide +kernel
theorem dL_law_631 : decode code 631 = .ok (.invokevirtual 76, 3) := by decide +kernel
theorem dL_law_634 : decode code 634 = .ok (.aload_n 2, 1) := by decide +kernel
theorem dL_law_635 : decode code 635 = .ok (.invokevirtual 80, 3) := by decide +kernel
theorem dL_law_638 : decode code 638 = .ok (.if_icmp .eq 676, 3) := by decide +kernel
theorem dL_law_641 : decode code 641 = .ok (.iconst 0, 1) := by decide +kernel
theorem dL_law_642 : decode code 642 = .ok (.ireturn, 1) := by decide +kernel
theorem dL_law_643 : decode code 643 = .ok (.aload_n 1, 1) := by decide +kernel
theorem dL_law_644 : decode code 644 = .ok (.aload_n 0, 1) := by decide +kernel
theorem dL_law_645 : decode code 645 = .ok (.iload_n 3, 1) := by decide +kernel
theorem dL_law_646 : decode code 646 = .ok (.iconst 1, 1) := by decide +kernel
theorem dL_law_647 : decode code 647 = .ok (.iadd, 1) := by decide +kernel
theorem dL_law_648 : decode code 648 = .ok (.iaload, 1) := by decide +kernel
theorem dL_law_649 : decode code 649 = .ok (.invokevirtual 81, 3) := by decide +kernel
theorem dL_law_652 : decode code 652 = .ok (.aload_n 2, 1) := by decide +kernel
theorem dL_law_653 : decode code 653 = .ok (.aload_n 0, 1) := by decide +kernel
theorem dL_law_654 : decode code 654 = .ok (.iload_n 3, 1) := by decide +kernel
theorem dL_law_655 : decode code 655 = .ok (.iconst 1, 1) := by decide +kernel
theorem dL_law_656 : decode code 656 = .ok (.iadd, 1) := by decide +kernel
theorem dL_law_657 : decode code 657 = .ok (.iaload, 1) := by decide +kernel
theorem dL_law_658 : decode code 658 = .ok (.invokevirtual 84, 3) := by decide +kernel
theorem dL_law_661 : decode code 661 = .ok (.if_icmp .eq 653, 3) := by decide +kernel
theorem dL_law_664 : decode code 664 = .ok (.iconst 0, 1) := by decide +kernel
theorem dL_law_665 : decode code 665 = .ok (.ireturn, 1) := by decide +kernel
theorem dL_law_666 : decode code 666 = .ok (.aload_n 1, 1) := by decide +kernel
theorem dL_law_667 : decode code 667 = .ok (.aload_n 0, 1) := by decide +kernel
theorem dL_law_668 : decode code 668 = .ok (.iload_n 3, 1) := by decide +kernel
theorem dL_law_669 : decode code 669 = .ok (.iconst 1, 1) := by decide +kernel
theorem dL_law_670 : decode code 670 = .ok (.iadd, 1) := by decide +kernel
theorem dL_law_671 : decode code 671 = .ok (.iaload, 1) := by decide +kernel
theorem dL_law_672 : decode code 672 = .ok (.invokevirtual 85, 3) := by decide +kernel
theorem dL_law_675 : decode code 675 = .ok (.aload_n 2, 1) := by decide +kernel
theorem dL_law_676 : decode code 676 = .ok (.aload_n 0, 1) := by decide +kernel
theorem dL_law_677 : decode code 677 = .ok (.iload_n 3, 1) := by decide +kernel
theorem dL_law_678 : decode code 678 = .ok (.iconst 1, 1) := by decide +kernel
theorem dL_law_679 : decode code 679 = .ok (.iadd, 1) := by decide +kernel
theorem dL_law_680 : decode code 680 = .ok (.iaload, 1) := by decide +kernel
theorem dL_law_681 : decode code 681 = .ok (.invokevirtual 88, 3) := by decide +kernel
theorem dL_law_684 : decode code 684 = .ok (.if_icmp .eq 630, 3) := by decide +kernel
theorem dL_law_687 : decode code 687 = .ok (.iconst 0, 1) := by decide +kernel
theorem dL_law_688 : decode code 688 = .ok (.ireturn, 1) := by decide +kernel
theorem dL_law_689 : decode code 689 = .ok (.aload_n 1, 1) := by decide +kernel
theorem dL_law_690 : decode code 690 = .ok (.aload_n 0, 1) := by decide +kernel
theorem dL_law_691 : decode code 691 = .ok (.iload_n 3, 1) := by decide +kernel
theorem dL_law_692 : decode code 692 = .ok (.iconst 1, 1) := by decide +kernel
theorem dL_law_693 : decode code 693 = .ok (.iadd, 1) := by decide +kernel
theorem dL_law_694 : decode code 694 = .ok (.iaload, 1) := by decide +kernel
theorem dL_law_695 : decode code 695 = .ok (.aload_n 0, 1) := by decide +kernel
theorem dL_law_696 : decode code 696 = .ok (.iload_n 3, 1) := by decide +kernel
theorem dL_law_697 : decode code 697 = .ok (.iconst 2, 1) := by decide +kernel
theorem dL_law_698 : decode code 698 = .ok (.iadd, 1) := by decide +kernel
theorem dL_law_699 : decode code 699 = .ok (.iaload, 1) := by decide +kernel
theorem dL_law_700 : decode code 700 = .ok (.invokevirtual 89, 3) := by decide +kernel
theorem dL_law_703 : decode code 703 = .ok (.aload_n 2, 1) := by decide +kernel
theorem dL_law_704 : decode code 704 = .ok (.aload_n 0, 1) := by decide +kernel
theorem dL_law_705 : decode code 705 = .ok (.iload_n 3, 1) := by decide +kernel
theorem dL_law_706 : decode code 706 = .ok (.iconst 1, 1) := by decide +kernel
theorem dL_law_707 : decode code 707 = .ok (.iadd, 1) := by decide +kernel
theorem dL_law_708 : decode code 708 = .ok (.iaload, 1) := by decide +kernel
theorem dL_law_709 : decode code 709 = .ok (.aload_n 0, 1) := by decide +kernel
theorem dL_law_710 : decode code 710 = .ok (.iload_n 3, 1) := by decide +kernel
theorem dL_law_711 : decode code 711 = .ok (.iconst 2, 1) := by decide +kernel
theorem dL_law_712 : decode code 712 = .ok (.iadd, 1) := by decide +kernel
theorem dL_law_713 : decode code 713 = .ok (.iaload, 1) := by decide +kernel
theorem dL_law_714 : decode code 714 = .ok (.invokevirtual 92, 3) := by decide +kernel
theorem dL_law_717 : decode code 717 = .ok (.if_icmp .eq 597, 3) := by decide +kernel
theorem dL_law_720 : decode code 720 = .ok (.iconst 0, 1) := by decide +kernel
theorem dL_law_721 : decode code 721 = .ok (.ireturn, 1) := by decide +kernel
theorem dL_law_722 : decode code 722 = .ok (.aload_n 1, 1) := by decide +kernel
theorem dL_law_723 : decode code 723 = .ok (.invokevirtual 93, 3) := by decide +kernel
theorem dL_law_726 : decode code 726 = .ok (.aload_n 2, 1) := by decide +kernel
theorem dL_law_727 : decode code 727 = .ok (.invokevirtual 96, 3) := by decide +kernel
theorem dL_law_730 : decode code 730 = .ok (.if_icmp .eq 584, 3) := by decide +kernel
theorem dL_law_733 : decode code 733 = .ok (.iconst 0, 1) := by decide +kernel
theorem dL_law_734 : decode code 734 = .ok (.ireturn, 1) := by decide +kernel
theorem dL_law_735 : decode code 735 = .ok (.aload_n 1, 1) := by decide +kernel
theorem dL_law_736 : decode code 736 = .ok (.aload_n 0, 1) := by decide +kernel
theorem dL_law_737 : decode code 737 = .ok (.iload_n 3, 1) := by decide +kernel
theorem dL_law_738 : decode code 738 = .ok (.iconst 1, 1) := by decide +kernel
theorem dL_law_739 : decode code 739 = .ok (.iadd, 1) := by decide +kernel
theorem dL_law_740 : decode code 740 = .ok (.iaload, 1) := by decide +kernel
theorem dL_law_741 : decode code 741 = .ok (.aload_n 0, 1) := by decide +kernel
theorem dL_law_742 : decode code 742 = .ok (.iload_n 3, 1) := by decide +kernel
theorem dL_law_743 : decode code 743 = .ok (.iconst 2, 1) := by decide +kernel
theorem dL_law_744 : decode code 744 = .ok (.iadd, 1) := by decide +kernel
theorem dL_law_745 : decode code 745 = .ok (.iaload, 1) := by decide +kernel
theorem dL_law_746 : decode code 746 = .ok (.invokevirtual 97, 3) := by decide +kernel
theorem dL_law_749 : decode code 749 = .ok (.aload_n 2, 1) := by decide +kernel
theorem dL_law_750 : decode code 750 = .ok (.aload_n 0, 1) := by decide +kernel
theorem dL_law_751 : decode code 751 = .ok (.iload_n 3, 1) := by decide +kernel
theorem dL_law_752 : decode code 752 = .ok (.iconst 1, 1) := by decide +kernel
theorem dL_law_753 : decode code 753 = .ok (.iadd, 1) := by decide +kernel
theorem dL_law_754 : decode code 754 = .ok (.iaload, 1) := by decide +kernel
theorem dL_law_755 : decode code 755 = .ok (.aload_n 0, 1) := by decide +kernel
theorem dL_law_756 : decode code 756 = .ok (.iload_n 3, 1) := by decide +kernel
theorem dL_law_757 : decode code 757 = .ok (.iconst 2, 1) := by decide +kernel
theorem dL_law_758 : decode code 758 = .ok (.iadd, 1) := by decide +kernel
theorem dL_law_759 : decode code 759 = .ok (.iaload, 1) := by decide +kernel
theorem dL_law_760 : decode code 760 = .ok (.invokevirtual 100, 3) := by decide +kernel
theorem dL_law_763 : decode code 763 = .ok (.if_icmp .eq 551, 3) := by decide +kernel
theorem dL_law_766 : decode code 766 = .ok (.iconst 0, 1) := by decide +kernel
theorem dL_law_767 : decode code 767 = .ok (.ireturn, 1) := by decide +kernel
theorem dL_law_768 : decode code 768 = .ok (.aload_n 1, 1) := by decide +kernel
theorem dL_law_769 : decode code 769 = .ok (.invokevirtual 101, 3) := by decide +kernel
theorem dL_law_772 : decode code 772 = .ok (.aload_n 2, 1) := by decide +kernel
theorem dL_law_773 : decode code 773 = .ok (.invokevirtual 104, 3) := by decide +kernel
theorem dL_law_776 : decode code 776 = .ok (.if_icmp .eq 538, 3) := by decide +kernel
theorem dL_law_779 : decode code 779 = .ok (.iconst 0, 1) := by decide +kernel
theorem dL_law_780 : decode code 780 = .ok (.ireturn, 1) := by decide +kernel
theorem dL_law_781 : decode code 781 = .ok (.aload_n 1, 1) := by decide +kernel
theorem dL_law_782 : decode code 782 = .ok (.aload_n 0, 1) := by decide +kernel
theorem dL_law_783 : decode code 783 = .ok (.iload_n 3, 1) := by decide +kernel
theorem dL_law_784 : decode code 784 = .ok (.iconst 1, 1) := by decide +kernel
theorem dL_law_785 : decode code 785 = .ok (.iadd, 1) := by decide +kernel
theorem dL_law_786 : decode code 786 = .ok (.iaload, 1) := by decide +kernel
theorem dL_law_787 : decode code 787 = .ok (.invokevirtual 105, 3) := by decide +kernel
theorem dL_law_790 : decode code 790 = .ok (.aload_n 2, 1) := by decide +kernel
theorem dL_law_791 : decode code 791 = .ok (.aload_n 0, 1) := by decide +kernel
theorem dL_law_792 : decode code 792 = .ok (.iload_n 3, 1) := by decide +kernel
theorem dL_law_793 : decode code 793 = .ok (.iconst 1, 1) := by decide +kernel
theorem dL_law_794 : decode code 794 = .ok (.iadd, 1) := by decide +kernel
theorem dL_law_795 : decode code 795 = .ok (.iaload, 1) := by decide +kernel
theorem dL_law_796 : decode code 796 = .ok (.invokevirtual 108, 3) := by decide +kernel
theorem dL_law_799 : decode code 799 = .ok (.if_icmp .eq 515, 3) := by decide +kernel
theorem dL_law_802 : decode code 802 = .ok (.iconst 0, 1) := by decide +kernel
theorem dL_law_803 : decode code 803 = .ok (.ireturn, 1) := by decide +kernel
theorem dL_law_804 : decode code 804 = .ok (.aload_n 1, 1) := by decide +kernel
theorem dL_law_805 : decode code 805 = .ok (.aload_n 0, 1) := by decide +kernel
theorem dL_law_806 : decode code 806 = .ok (.iload_n 3, 1) := by decide +kernel
theorem dL_law_807 : decode code 807 = .ok (.iconst 1, 1) := by decide +kernel
theorem dL_law_808 : decode code 808 = .ok (.iadd, 1) := by decide +kernel
theorem dL_law_809 : decode code 809 = .ok (.iaload, 1) := by decide +kernel
theorem dL_law_810 : decode code 810 = .ok (.aload_n 0, 1) := by decide +kernel
theorem dL_law_811 : decode code 811 = .ok (.iload_n 3, 1) := by decide +kernel
theorem dL_law_812 : decode code 812 = .ok (.iconst 2, 1) := by decide +kernel
theorem dL_law_813 : decode code 813 = .ok (.iadd, 1) := by decide +kernel
theorem dL_law_814 : decode code 814 = .ok (.iaload, 1) := by decide +kernel
theorem dL_law_815 : decode code 815 = .ok (.invokevirtual 109, 3) := by decide +kernel
theorem dL_law_818 : decode code 818 = .ok (.aload_n 2, 1) := by decide +kernel
theorem dL_law_819 : decode code 819 = .ok (.aload_n 0, 1) := by decide +kernel
theorem dL_law_820 : decode code 820 = .ok (.iload_n 3, 1) := by decide +kernel
theorem dL_law_821 : decode code 821 = .ok (.iconst 1, 1) := by decide +kernel
theorem dL_law_822 : decode code 822 = .ok (.iadd, 1) := by decide +kernel
theorem dL_law_823 : decode code 823 = .ok (.iaload, 1) := by decide +kernel
theorem dL_law_824 : decode code 824 = .ok (.aload_n 0, 1) := by decide +kernel
theorem dL_law_825 : decode code 825 = .ok (.iload_n 3, 1) := by decide +kernel
theorem dL_law_826 : decode code 826 = .ok (.iconst 2, 1) := by decide +kernel
theorem dL_law_827 : decode code 827 = .ok (.iadd, 1) := by decide +kernel
theorem dL_law_828 : decode code 828 = .ok (.iaload, 1) := by decide +kernel
theorem dL_law_829 : decode code 829 = .ok (.invokevirtual 112, 3) := by decide +kernel
theorem dL_law_832 : decode code 832 = .ok (.if_icmp .eq 482, 3) := by decide +kernel
theorem dL_law_835 : decode code 835 = .ok (.iconst 0, 1) := by decide +kernel
theorem dL_law_836 : decode code 836 = .ok (.ireturn, 1) := by decide +kernel
theorem dL_law_837 : decode code 837 = .ok (.aload_n 1, 1) := by decide +kernel
theorem dL_law_838 : decode code 838 = .ok (.invokevirtual 113, 3) := by decide +kernel
theorem dL_law_841 : decode code 841 = .ok (.aload_n 2, 1) := by decide +kernel
theorem dL_law_842 : decode code 842 = .ok (.invokevirtual 116, 3) := by decide +kernel
theorem dL_law_845 : decode code 845 = .ok (.if_icmp .eq 469, 3) := by decide +kernel
theorem dL_law_848 : decode code 848 = .ok (.iconst 0, 1) := by decide +kernel
theorem dL_law_849 : decode code 849 = .ok (.ireturn, 1) := by decide +kernel
theorem dL_law_850 : decode code 850 = .ok (.aload_n 1, 1) := by decide +kernel
theorem dL_law_851 : decode code 851 = .ok (.aload_n 0, 1) := by decide +kernel
theorem dL_law_852 : decode code 852 = .ok (.iload_n 3, 1) := by decide +kernel
theorem dL_law_853 : decode code 853 = .ok (.iconst 1, 1) := by decide +kernel
theorem dL_law_854 : decode code 854 = .ok (.iadd, 1) := by decide +kernel
theorem dL_law_855 : decode code 855 = .ok (.iaload, 1) := by decide +kernel
theorem dL_law_856 : decode code 856 = .ok (.invokevirtual 117, 3) := by decide +kernel
theorem dL_law_859 : decode code 859 = .ok (.aload_n 2, 1) := by decide +kernel
theorem dL_law_860 : decode code 860 = .ok (.aload_n 0, 1) := by decide +kernel
theorem dL_law_861 : decode code 861 = .ok (.iload_n 3, 1) := by decide +kernel
theorem dL_law_862 : decode code 862 = .ok (.iconst 1, 1) := by decide +kernel
theorem dL_law_863 : decode code 863 = .ok (.iadd, 1) := by decide +kernel
theorem dL_law_864 : decode code 864 = .ok (.iaload, 1) := by decide +kernel
theorem dL_law_865 : decode code 865 = .ok (.invokevirtual 120, 3) := by decide +kernel
theorem dL_law_868 : decode code 868 = .ok (.if_icmp .eq 446, 3) := by decide +kernel
theorem dL_law_871 : decode code 871 = .ok (.iconst 0, 1) := by decide +kernel
theorem dL_law_872 : decode code 872 = .ok (.ireturn, 1) := by decide +kernel
theorem dL_law_873 : decode code 873 = .ok (.aload_n 1, 1) := by decide +kernel
theorem dL_law_874 : decode code 874 = .ok (.aload_n 0, 1) := by decide +kernel
theorem dL_law_875 : decode code 875 = .ok (.iload_n 3, 1) := by decide +kernel
theorem dL_law_876 : decode code 876 = .ok (.iconst 1, 1) := by decide +kernel
theorem dL_law_877 : decode code 877 = .ok (.iadd, 1) := by decide +kernel
theorem dL_law_878 : decode code 878 = .ok (.iaload, 1) := by decide +kernel
theorem dL_law_879 : decode code 879 = .ok (.aload_n 0, 1) := by decide +kernel
theorem dL_law_880 : decode code 880 = .ok (.iload_n 3, 1) := by decide +kernel
theorem dL_law_881 : decode code 881 = .ok (.iconst 2, 1) := by decide +kernel
theorem dL_law_882 : decode code 882 = .ok (.iadd, 1) := by decide +kernel
theorem dL_law_883 : decode code 883 = .ok (.iaload, 1) := by decide +kernel
theorem dL_law_884 : decode code 884 = .ok (.invokevirtual 121, 3) := by decide +kernel
theorem dL_law_887 : decode code 887 = .ok (.aload_n 2, 1) := by decide +kernel
theorem dL_law_888 : decode code 888 = .ok (.aload_n 0, 1) := by decide +kernel
theorem dL_law_889 : decode code 889 = .ok (.iload_n 3, 1) := by decide +kernel
theorem dL_law_890 : decode code 890 = .ok (.iconst 1, 1) := by decide +kernel
theorem dL_law_891 : decode code 891 = .ok (.iadd, 1) := by decide +kernel
theorem dL_law_892 : decode code 892 = .ok (.iaload, 1) := by decide +kernel
theorem dL_law_893 : decode code 893 = .ok (.aload_n 0, 1) := by decide +kernel
theorem dL_law_894 : decode code 894 = .ok (.iload_n 3, 1) := by decide +kernel
theorem dL_law_895 : decode code 895 = .ok (.iconst 2, 1) := by decide +kernel
theorem dL_law_896 : decode code 896 = .ok (.iadd, 1) := by decide +kernel
theorem dL_law_897 : decode code 897 = .ok (.iaload, 1) := by decide +kernel
theorem dL_law_898 : decode code 898 = .ok (.invokevirtual 124, 3) := by decide +kernel
theorem dL_law_901 : decode code 901 = .ok (.if_icmp .eq 413, 3) := by decide +kernel
theorem dL_law_904 : decode code 904 = .ok (.iconst 0, 1) := by decide +kernel
theorem dL_law_905 : decode code 905 = .ok (.ireturn, 1) := by decide +kernel
theorem dL_law_906 : decode code 906 = .ok (.aload_n 1, 1) := by decide +kernel
theorem dL_law_907 : decode code 907 = .ok (.aload_n 0, 1) := by decide +kernel
theorem dL_law_908 : decode code 908 = .ok (.iload_n 3, 1) := by decide +kernel
theorem dL_law_909 : decode code 909 = .ok (.iconst 1, 1) := by decide +kernel
theorem dL_law_910 : decode code 910 = .ok (.iadd, 1) := by decide +kernel
theorem dL_law_911 : decode code 911 = .ok (.iaload, 1) := by decide +kernel
theorem dL_law_912 : decode code 912 = .ok (.aload_n 0, 1) := by decide +kernel
theorem dL_law_913 : decode code 913 = .ok (.iload_n 3, 1) := by decide +kernel
theorem dL_law_914 : decode code 914 = .ok (.iconst 2, 1) := by decide +kernel
theorem dL_law_915 : decode code 915 = .ok (.iadd, 1) := by decide +kernel
theorem dL_law_916 : decode code 916 = .ok (.iaload, 1) := by decide +kernel
theorem dL_law_917 : decode code 917 = .ok (.invokevirtual 125, 3) := by decide +kernel
theorem dL_law_920 : decode code 920 = .ok (.aload_n 2, 1) := by decide +kernel
theorem dL_law_921 : decode code 921 = .ok (.aload_n 0, 1) := by decide +kernel
theorem dL_law_922 : decode code 922 = .ok (.iload_n 3, 1) := by decide +kernel
theorem dL_law_923 : decode code 923 = .ok (.iconst 1, 1) := by decide +kernel
theorem dL_law_924 : decode code 924 = .ok (.iadd, 1) := by decide +kernel
theorem dL_law_925 : decode code 925 = .ok (.iaload, 1) := by decide +kernel
theorem dL_law_926 : decode code 926 = .ok (.aload_n 0, 1) := by decide +kernel
theorem dL_law_927 : decode code 927 = .ok (.iload_n 3, 1) := by decide +kernel
theorem dL_law_928 : decode code 928 = .ok (.iconst 2, 1) := by decide +kernel
theorem dL_law_929 : decode code 929 = .ok (.iadd, 1) := by decide +kernel
theorem dL_law_930 : decode code 930 = .ok (.iaload, 1) := by decide +kernel
theorem dL_law_931 : decode code 931 = .ok (.invokevirtual 128, 3) := by decide +kernel
theorem dL_law_934 : decode code 934 = .ok (.if_icmp .eq 380, 3) := by decide +kernel
theorem dL_law_937 : decode code 937 = .ok (.iconst 0, 1) := by decide +kernel
theorem dL_law_938 : decode code 938 = .ok (.ireturn, 1) := by decide +kernel
theorem dL_law_939 : decode code 939 = .ok (.aload_n 1, 1) := by decide +kernel
theorem dL_law_940 : decode code 940 = .ok (.invokevirtual 129, 3) := by decide +kernel
theorem dL_law_943 : decode code 943 = .ok (.aload_n 2, 1) := by decide +kernel
theorem dL_law_944 : decode code 944 = .ok (.invokevirtual 132, 3) := by decide +kernel
theorem dL_law_947 : decode code 947 = .ok (.if_icmp .eq 367, 3) := by decide +kernel
theorem dL_law_950 : decode code 950 = .ok (.iconst 0, 1) := by decide +kernel
theorem dL_law_951 : decode code 951 = .ok (.ireturn, 1) := by decide +kernel
theorem dL_law_952 : decode code 952 = .ok (.aload_n 1, 1) := by decide +kernel
theorem dL_law_953 : decode code 953 = .ok (.aload_n 0, 1) := by decide +kernel
theorem dL_law_954 : decode code 954 = .ok (.iload_n 3, 1) := by decide +kernel
theorem dL_law_955 : decode code 955 = .ok (.iconst 1, 1) := by decide +kernel
theorem dL_law_956 : decode code 956 = .ok (.iadd, 1) := by decide +kernel
theorem dL_law_957 : decode code 957 = .ok (.iaload, 1) := by decide +kernel
theorem dL_law_958 : decode code 958 = .ok (.invokevirtual 133, 3) := by decide +kernel
theorem dL_law_961 : decode code 961 = .ok (.aload_n 2, 1) := by decide +kernel
theorem dL_law_962 : decode code 962 = .ok (.aload_n 0, 1) := by decide +kernel
theorem dL_law_963 : decode code 963 = .ok (.iload_n 3, 1) := by decide +kernel
theorem dL_law_964 : decode code 964 = .ok (.iconst 1, 1) := by decide +kernel
theorem dL_law_965 : decode code 965 = .ok (.iadd, 1) := by decide +kernel
theorem dL_law_966 : decode code 966 = .ok (.iaload, 1) := by decide +kernel
theorem dL_law_967 : decode code 967 = .ok (.invokevirtual 136, 3) := by decide +kernel
theorem dL_law_970 : decode code 970 = .ok (.if_icmp .eq 344, 3) := by decide +kernel
theorem dL_law_973 : decode code 973 = .ok (.iconst 0, 1) := by decide +kernel
theorem dL_law_974 : decode code 974 = .ok (.ireturn, 1) := by decide +kernel
theorem dL_law_975 : decode code 975 = .ok (.aload_n 1, 1) := by decide +kernel
theorem dL_law_976 : decode code 976 = .ok (.aload_n 0, 1) := by decide +kernel
theorem dL_law_977 : decode code 977 = .ok (.iload_n 3, 1) := by decide +kernel
theorem dL_law_978 : decode code 978 = .ok (.iconst 1, 1) := by decide +kernel
theorem dL_law_979 : decode code 979 = .ok (.iadd, 1) := by decide +kernel
theorem dL_law_980 : decode code 980 = .ok (.iaload, 1) := by decide +kernel
theorem dL_law_981 : decode code 981 = .ok (.invokevirtual 137, 3) := by decide +kernel
theorem dL_law_984 : decode code 984 = .ok (.aload_n 2, 1) := by decide +kernel
theorem dL_law_985 : decode code 985 = .ok (.aload_n 0, 1) := by decide +kernel
theorem dL_law_986 : decode code 986 = .ok (.iload_n 3, 1) := by decide +kernel
theorem dL_law_987 : decode code 987 = .ok (.iconst 1, 1) := by decide +kernel
theorem dL_law_988 : decode code 988 = .ok (.iadd, 1) := by decide +kernel
theorem dL_law_989 : decode code 989 = .ok (.iaload, 1) := by decide +kernel
theorem dL_law_990 : decode code 990 = .ok (.invokevirtual 140, 3) := by decide +kernel
theorem dL_law_993 : decode code 993 = .ok (.if_icmp .eq 321, 3) := by decide +kernel
theorem dL_law_996 : decode code 996 = .ok (.iconst 0, 1) := by decide +kernel
theorem dL_law_997 : decode code 997 = .ok (.ireturn, 1) := by decide +kernel
theorem dL_law_998 : decode code 998 = .ok (.aload_n 1, 1) := by decide +kernel
theorem dL_law_999 : decode code 999 = .ok (.aload_n 0, 1) := by decide +kernel
theorem dL_law_1000 : decode code 1000 = .ok (.iload_n 3, 1) := by decide +kernel
theorem dL_law_1001 : decode code 1001 = .ok (.iconst 1, 1) := by decide +kernel
theorem dL_law_1002 : decode code 1002 = .ok (.iadd, 1) := by decide +kernel
theorem dL_law_1003 : decode code 1003 = .ok (.iaload, 1) := by decide +kernel
theorem dL_law_1004 : decode code 1004 = .ok (.aload_n 0, 1) := by decide +kernel
theorem dL_law_1005 : decode code 1005 = .ok (.iload_n 3, 1) := by decide +kernel
theorem dL_law_1006 : decode code 1006 = .ok (.iconst 2, 1) := by decide +kernel
theorem dL_law_1007 : decode code 1007 = .ok (.iadd, 1) := by decide +kernel
theorem dL_law_1008 : decode code 1008 = .ok (.iaload, 1) := by decide +kernel
theorem dL_law_1009 : decode code 1009 = .ok (.invokevirtual 141, 3) := by decide +kernel
theorem dL_law_1012 : decode code 1012 = .ok (.aload_n 2, 1) := by decide +kernel
theorem dL_law_1013 : decode code 1013 = .ok (.aload_n 0, 1) := by decide +kernel
theorem dL_law_1014 : decode code 1014 = .ok (.iload_n 3, 1) := by decide +kernel
theorem dL_law_1015 : decode code 1015 = .ok (.iconst 1, 1) := by decide +kernel
theorem dL_law_1016 : decode code 1016 = .ok (.iadd, 1) := by decide +kernel
theorem dL_law_1017 : decode code 1017 = .ok (.iaload, 1) := by decide +kernel
theorem dL_law_1018 : decode code 1018 = .ok (.aload_n 0, 1) := by decide +kernel
theorem dL_law_1019 : decode code 1019 = .ok (.iload_n 3, 1) := by decide +kernel
theorem dL_law_1020 : decode code 1020 = .ok (.iconst 2, 1) := by decide +kernel
theorem dL_law_1021 : decode code 1021 = .ok (.iadd, 1) := by decide +kernel
theorem dL_law_1022 : decode code 1022 = .ok (.iaload, 1) := by decide +kernel
theorem dL_law_1023 : decode code 1023 = .ok (.invokevirtual 144, 3) := by decide +kernel
theorem dL_law_1026 : decode code 1026 = .ok (.if_icmp .eq 288, 3) := by decide +kernel
theorem dL_law_1029 : decode code 1029 = .ok (.iconst 0, 1) := by decide +kernel
theorem dL_law_1030 : decode code 1030 = .ok (.ireturn, 1) := by decide +kernel
theorem dL_law_1031 : decode code 1031 = .ok (.aload_n 1, 1) := by decide +kernel
theorem dL_law_1032 : decode code 1032 = .ok (.aload_n 0, 1) := by decide +kernel
theorem dL_law_1033 : decode code 1033 = .ok (.iload_n 3, 1) := by decide +kernel
theorem dL_law_1034 : decode code 1034 = .ok (.iconst 1, 1) := by decide +kernel
theorem dL_law_1035 : decode code 1035 = .ok (.iadd, 1) := by decide +kernel
theorem dL_law_1036 : decode code 1036 = .ok (.iaload, 1) := by decide +kernel
theorem dL_law_1037 : decode code 1037 = .ok (.aload_n 0, 1) := by decide +kernel
theorem dL_law_1038 : decode code 1038 = .ok (.iload_n 3, 1) := by decide +kernel
theorem dL_law_1039 : decode code 1039 = .ok (.iconst 2, 1) := by decide +kernel
theorem dL_law_1040 : decode code 1040 = .ok (.iadd, 1) := by decide +kernel
theorem dL_law_1041 : decode code 1041 = .ok (.iaload, 1) := by decide +kernel
theorem dL_law_1042 : decode code 1042 = .ok (.invokevirtual 145, 3) := by decide +kernel
theorem dL_law_1045 : decode code 1045 = .ok (.aload_n 2, 1) := by decide +kernel
theorem dL_law_1046 : decode code 1046 = .ok (.aload_n 0, 1) := by decide +kernel
theorem dL_law_1047 : decode code 1047 = .ok (.iload_n 3, 1) := by decide +kernel
theorem dL_law_1048 : decode code 1048 = .ok (.iconst 1, 1) := by decide +kernel
theorem dL_law_1049 : decode code 1049 = .ok (.iadd, 1) := by decide +kernel
theorem dL_law_1050 : decode code 1050 = .ok (.iaload, 1) := by decide +kernel
theorem dL_law_1051 : decode code 1051 = .ok (.aload_n 0, 1) := by decide +kernel
theorem dL_law_1052 : decode code 1052 = .ok (.iload_n 3, 1) := by decide +kernel
theorem dL_law_1053 : decode code 1053 = .ok (.iconst 2, 1) := by decide +kernel
theorem dL_law_1054 : decode code 1054 = .ok (.iadd, 1) := by decide +kernel
theorem dL_law_1055 : decode code 1055 = .ok (.iaload, 1) := by decide +kernel
theorem dL_law_1056 : decode code 1056 = .ok (.invokevirtual 148, 3) := by decide +kernel
theorem dL_law_1059 : decode code 1059 = .ok (.if_icmp .eq 255, 3) := by decide +kernel
theorem dL_law_1062 : decode code 1062 = .ok (.iconst 0, 1) := by decide +kernel
theorem dL_law_1063 : decode code 1063 = .ok (.ireturn, 1) := by decide +kernel
theorem dL_law_1064 : decode code 1064 = .ok (.aload_n 1, 1) := by decide +kernel
theorem dL_law_1065 : decode code 1065 = .ok (.aload_n 0, 1) := by decide +kernel
theorem dL_law_1066 : decode code 1066 = .ok (.iload_n 3, 1) := by decide +kernel
theorem dL_law_1067 : decode code 1067 = .ok (.iconst 1, 1) := by decide +kernel
theorem dL_law_1068 : decode code 1068 = .ok (.iadd, 1) := by decide +kernel
theorem dL_law_1069 : decode code 1069 = .ok (.iaload, 1) := by decide +kernel
theorem dL_law_1070 : decode code 1070 = .ok (.aload_n 0, 1) := by decide +kernel
theorem dL_law_1071 : decode code 1071 = .ok (.iload_n 3, 1) := by decide +kernel
theorem dL_law_1072 : decode code 1072 = .ok (.iconst 2, 1) := by decide +kernel
theorem dL_law_1073 : decode code 1073 = .ok (.iadd, 1) := by decide +kernel
theorem dL_law_1074 : decode code 1074 = .ok (.iaload, 1) := by decide +kernel
theorem dL_law_1075 : decode code 1075 = .ok (.aload_n 0, 1) := by decide +kernel
theorem dL_law_1076 : decode code 1076 = .ok (.iload_n 3, 1) := by decide +kernel
theorem dL_law_1077 : decode code 1077 = .ok (.iconst 3, 1) := by decide +kernel
theorem dL_law_1078 : decode code 1078 = .ok (.iadd, 1) := by decide +kernel
theorem dL_law_1079 : decode code 1079 = .ok (.iaload, 1) := by decide +kernel
theorem dL_law_1080 : decode code 1080 = .ok (.invokevirtual 149, 3) := by decide +kernel
theorem dL_law_1083 : decode code 1083 = .ok (.aload_n 2, 1) := by decide +kernel
theorem dL_law_1084 : decode code 1084 = .ok (.aload_n 0, 1) := by decide +kernel
theorem dL_law_1085 : decode code 1085 = .ok (.iload_n 3, 1) := by decide +kernel
theorem dL_law_1086 : decode code 1086 = .ok (.iconst 1, 1) := by decide +kernel
theorem dL_law_1087 : decode code 1087 = .ok (.iadd, 1) := by decide +kernel
theorem dL_law_1088 : decode code 1088 = .ok (.iaload, 1) := by decide +kernel
theorem dL_law_1089 : decode code 1089 = .ok (.aload_n 0, 1) := by decide +kernel
theorem dL_law_1090 : decode code 1090 = .ok (.iload_n 3, 1) := by decide +kernel
theorem dL_law_1091 : decode code 1091 = .ok (.iconst 2, 1) := by decide +kernel
theorem dL_law_1092 : decode code 1092 = .ok (.iadd, 1) := by decide +kernel
theorem dL_law_1093 : decode code 1093 = .ok (.iaload, 1) := by decide +kernel
theorem dL_law_1094 : decode code 1094 = .ok (.aload_n 0, 1) := by decide +kernel
theorem dL_law_1095 : decode code 1095 = .ok (.iload_n 3, 1) := by decide +kernel
theorem dL_law_1096 : decode code 1096 = .ok (.iconst 3, 1) := by decide +kernel
theorem dL_law_1097 : decode code 1097 = .ok (.iadd, 1) := by decide +kernel
theorem dL_law_1098 : decode code 1098 = .ok (.iaload, 1) := by decide +kernel
theorem dL_law_1099 : decode code 1099 = .ok (.invokevirtual 152, 3) := by decide +kernel
theorem dL_law_1102 : decode code 1102 = .ok (.if_icmp .eq 212, 3) := by decide +kernel
theorem dL_law_1105 : decode code 1105 = .ok (.iconst 0, 1) := by decide +kernel
theorem dL_law_1106 : decode code 1106 = .ok (.ireturn, 1) := by decide +kernel
theorem dL_law_1107 : decode code 1107 = .ok (.aload_n 1, 1) := by decide +kernel
theorem dL_law_1108 : decode code 1108 = .ok (.aload_n 0, 1) := by decide +kernel
theorem dL_law_1109 : decode code 1109 = .ok (.iload_n 3, 1) := by decide +kernel
theorem dL_law_1110 : decode code 1110 = .ok (.iconst 1, 1) := by decide +kernel
theorem dL_law_1111 : decode code 1111 = .ok (.iadd, 1) := by decide +kernel
theorem dL_law_1112 : decode code 1112 = .ok (.iaload, 1) := by decide +kernel
theorem dL_law_1113 : decode code 1113 = .ok (.aload_n 0, 1) := by decide +kernel
theorem dL_law_1114 : decode code 1114 = .ok (.iload_n 3, 1) := by decide +kernel
theorem dL_law_1115 : decode code 1115 = .ok (.iconst 2, 1) := by decide +kernel
theorem dL_law_1116 : decode code 1116 = .ok (.iadd, 1) := by decide +kernel
theorem dL_law_1117 : decode code 1117 = .ok (.iaload, 1) := by decide +kernel
theorem dL_law_1118 : decode code 1118 = .ok (.aload_n 0, 1) := by decide +kernel
theorem dL_law_1119 : decode code 1119 = .ok (.iload_n 3, 1) := by decide +kernel
theorem dL_law_1120 : decode code 1120 = .ok (.iconst 3, 1) := by decide +kernel
theorem dL_law_1121 : decode code 1121 = .ok (.iadd, 1) := by decide +kernel
theorem dL_law_1122 : decode code 1122 = .ok (.iaload, 1) := by decide +kernel
theorem dL_law_1123 : decode code 1123 = .ok (.ifCond .eq 7, 3) := by decide +kernel
theorem dL_law_1126 : decode code 1126 = .ok (.iconst 1, 1) := by decide +kernel
theorem dL_law_1127 : decode code 1127 = .ok (.goto 4, 3) := by decide +kernel
theorem dL_law_1130 : decode code 1130 = .ok (.iconst 0, 1) := by decide +kernel
theorem dL_law_1131 : decode code 1131 = .ok (.invokevirtual 153, 3) := by decide +kernel
theorem dL_law_1134 : decode code 1134 = .ok (.aload_n 2, 1) := by decide +kernel
theorem dL_law_1135 : decode code 1135 = .ok (.aload_n 0, 1) := by decide +kernel
theorem dL_law_1136 : decode code 1136 = .ok (.iload_n 3, 1) := by decide +kernel
theorem dL_law_1137 : decode code 1137 = .ok (.iconst 1, 1) := by decide +kernel
theorem dL_law_1138 : decode code 1138 = .ok (.iadd, 1) := by decide +kernel
theorem dL_law_1139 : decode code 1139 = .ok (.iaload, 1) := by decide +kernel
theorem dL_law_1140 : decode code 1140 = .ok (.aload_n 0, 1) := by decide +kernel
theorem dL_law_1141 : decode code 1141 = .ok (.iload_n 3, 1) := by decide +kernel
theorem dL_law_1142 : decode code 1142 = .ok (.iconst 2, 1) := by decide +kernel
theorem dL_law_1143 : decode code 1143 = .ok (.iadd, 1) := by decide +kernel
theorem dL_law_1144 : decode code 1144 = .ok (.iaload, 1) := by decide +kernel
theorem dL_law_1145 : decode code 1145 = .ok (.aload_n 0, 1) := by decide +kernel
theorem dL_law_1146 : decode code 1146 = .ok (.iload_n 3, 1) := by decide +kernel
theorem dL_law_1147 : decode code 1147 = .ok (.iconst 3, 1) := by decide +kernel
theorem dL_law_1148 : decode code 1148 = .ok (.iadd, 1) := by decide +kernel
theorem dL_law_1149 : decode code 1149 = .ok (.iaload, 1) := by decide +kernel
theorem dL_law_1150 : decode code 1150 = .ok (.ifCond .eq 7, 3) := by decide +kernel
theorem dL_law_1153 : decode code 1153 = .ok (.iconst 1, 1) := by decide +kernel
theorem dL_law_1154 : decode code 1154 = .ok (.goto 4, 3) := by decide +kernel
theorem dL_law_1157 : decode code 1157 = .ok (.iconst 0, 1) := by decide +kernel
theorem dL_law_1158 : decode code 1158 = .ok (.invokevirtual 157, 3) := by decide +kernel
theorem dL_law_1161 : decode code 1161 = .ok (.if_icmp .eq 153, 3) := by decide +kernel
theorem dL_law_1164 : decode code 1164 = .ok (.iconst 0, 1) := by decide +kernel
theorem dL_law_1165 : decode code 1165 = .ok (.ireturn, 1) := by decide +kernel
theorem dL_law_1166 : decode code 1166 = .ok (.aload_n 1, 1) := by decide +kernel
theorem dL_law_1167 : decode code 1167 = .ok (.invokevirtual 158, 3) := by decide +kernel
theorem dL_law_1170 : decode code 1170 = .ok (.aload_n 2, 1) := by decide +kernel
theorem dL_law_1171 : decode code 1171 = .ok (.invokevirtual 161, 3) := by decide +kernel
theorem dL_law_1174 : decode code 1174 = .ok (.if_icmp .eq 140, 3) := by decide +kernel
theorem dL_law_1177 : decode code 1177 = .ok (.iconst 0, 1) := by decide +kernel
theorem dL_law_1178 : decode code 1178 = .ok (.ireturn, 1) := by decide +kernel
theorem dL_law_1179 : decode code 1179 = .ok (.aload_n 1, 1) := by decide +kernel
theorem dL_law_1180 : decode code 1180 = .ok (.aload_n 0, 1) := by decide +kernel
theorem dL_law_1181 : decode code 1181 = .ok (.iload_n 3, 1) := by decide +kernel
theorem dL_law_1182 : decode code 1182 = .ok (.iconst 1, 1) := by decide +kernel
theorem dL_law_1183 : decode code 1183 = .ok (.iadd, 1) := by decide +kernel
theorem dL_law_1184 : decode code 1184 = .ok (.iaload, 1) := by decide +kernel
theorem dL_law_1185 : decode code 1185 = .ok (.aload_n 0, 1) := by decide +kernel
theorem dL_law_1186 : decode code 1186 = .ok (.iload_n 3, 1) := by decide +kernel
theorem dL_law_1187 : decode code 1187 = .ok (.iconst 2, 1) := by decide +kernel
theorem dL_law_1188 : decode code 1188 = .ok (.iadd, 1) := by decide +kernel
theorem dL_law_1189 : decode code 1189 = .ok (.iaload, 1) := by decide +kernel
theorem dL_law_1190 : decode code 1190 = .ok (.invokevirtual 162, 3) := by decide +kernel
theorem dL_law_1193 : decode code 1193 = .ok (.aload_n 2, 1) := by decide +kernel
theorem dL_law_1194 : decode code 1194 = .ok (.aload_n 0, 1) := by decide +kernel
theorem dL_law_1195 : decode code 1195 = .ok (.iload_n 3, 1) := by decide +kernel
theorem dL_law_1196 : decode code 1196 = .ok (.iconst 1, 1) := by decide +kernel
theorem dL_law_1197 : decode code 1197 = .ok (.iadd, 1) := by decide +kernel
theorem dL_law_1198 : decode code 1198 = .ok (.iaload, 1) := by decide +kernel
theorem dL_law_1199 : decode code 1199 = .ok (.aload_n 0, 1) := by decide +kernel
theorem dL_law_1200 : decode code 1200 = .ok (.iload_n 3, 1) := by decide +kernel
theorem dL_law_1201 : decode code 1201 = .ok (.iconst 2, 1) := by decide +kernel
theorem dL_law_1202 : decode code 1202 = .ok (.iadd, 1) := by decide +kernel
theorem dL_law_1203 : decode code 1203 = .ok (.iaload, 1) := by decide +kernel
theorem dL_law_1204 : decode code 1204 = .ok (.invokevirtual 165, 3) := by decide +kernel
theorem dL_law_1207 : decode code 1207 = .ok (.if_icmp .eq 107, 3) := by decide +kernel
theorem dL_law_1210 : decode code 1210 = .ok (.iconst 0, 1) := by decide +kernel
theorem dL_law_1211 : decode code 1211 = .ok (.ireturn, 1) := by decide +kernel
theorem dL_law_1212 : decode code 1212 = .ok (.aload_n 1, 1) := by decide +kernel
theorem dL_law_1213 : decode code 1213 = .ok (.aload_n 0, 1) := by decide +kernel
theorem dL_law_1214 : decode code 1214 = .ok (.iload_n 3, 1) := by decide +kernel
theorem dL_law_1215 : decode code 1215 = .ok (.iconst 1, 1) := by decide +kernel
theorem dL_law_1216 : decode code 1216 = .ok (.iadd, 1) := by decide +kernel
theorem dL_law_1217 : decode code 1217 = .ok (.iaload, 1) := by decide +kernel
theorem dL_law_1218 : decode code 1218 = .ok (.aload_n 0, 1) := by decide +kernel
theorem dL_law_1219 : decode code 1219 = .ok (.iload_n 3, 1) := by decide +kernel
theorem dL_law_1220 : decode code 1220 = .ok (.iconst 2, 1) := by decide +kernel
theorem dL_law_1221 : decode code 1221 = .ok (.iadd, 1) := by decide +kernel
theorem dL_law_1222 : decode code 1222 = .ok (.iaload, 1) := by decide +kernel
theorem dL_law_1223 : decode code 1223 = .ok (.invokevirtual 166, 3) := by decide +kernel
theorem dL_law_1226 : decode code 1226 = .ok (.aload_n 2, 1) := by decide +kernel
theorem dL_law_1227 : decode code 1227 = .ok (.aload_n 0, 1) := by decide +kernel
theorem dL_law_1228 : decode code 1228 = .ok (.iload_n 3, 1) := by decide +kernel
theorem dL_law_1229 : decode code 1229 = .ok (.iconst 1, 1) := by decide +kernel
theorem dL_law_1230 : decode code 1230 = .ok (.iadd, 1) := by decide +kernel
theorem dL_law_1231 : decode code 1231 = .ok (.iaload, 1) := by decide +kernel
theorem dL_law_1232 : decode code 1232 = .ok (.aload_n 0, 1) := by decide +kernel
theorem dL_law_1233 : decode code 1233 = .ok (.iload_n 3, 1) := by decide +kernel
theorem dL_law_1234 : decode code 1234 = .ok (.iconst 2, 1) := by decide +kernel
theorem dL_law_1235 : decode code 1235 = .ok (.iadd, 1) := by decide +kernel
theorem dL_law_1236 : decode code 1236 = .ok (.iaload, 1) := by decide +kernel
theorem dL_law_1237 : decode code 1237 = .ok (.invokevirtual 169, 3) := by decide +kernel
theorem dL_law_1240 : decode code 1240 = .ok (.if_icmp .eq 74, 3) := by decide +kernel
theorem dL_law_1243 : decode code 1243 = .ok (.iconst 0, 1) := by decide +kernel
theorem dL_law_1244 : decode code 1244 = .ok (.ireturn, 1) := by decide +kernel
theorem dL_law_1245 : decode code 1245 = .ok (.aload_n 1, 1) := by decide +kernel
theorem dL_law_1246 : decode code 1246 = .ok (.aload_n 0, 1) := by decide +kernel
theorem dL_law_1247 : decode code 1247 = .ok (.iload_n 3, 1) := by decide +kernel
theorem dL_law_1248 : decode code 1248 = .ok (.iconst 1, 1) := by decide +kernel
theorem dL_law_1249 : decode code 1249 = .ok (.iadd, 1) := by decide +kernel
theorem dL_law_1250 : decode code 1250 = .ok (.iaload, 1) := by decide +kernel
theorem dL_law_1251 : decode code 1251 = .ok (.invokevirtual 170, 3) := by decide +kernel
theorem dL_law_1254 : decode code 1254 = .ok (.aload_n 2, 1) := by decide +kernel
theorem dL_law_1255 : decode code 1255 = .ok (.aload_n 0, 1) := by decide +kernel
theorem dL_law_1256 : decode code 1256 = .ok (.iload_n 3, 1) := by decide +kernel
theorem dL_law_1257 : decode code 1257 = .ok (.iconst 1, 1) := by decide +kernel
theorem dL_law_1258 : decode code 1258 = .ok (.iadd, 1) := by decide +kernel
theorem dL_law_1259 : decode code 1259 = .ok (.iaload, 1) := by decide +kernel
theorem dL_law_1260 : decode code 1260 = .ok (.invokevirtual 173, 3) := by decide +kernel
theorem dL_law_1263 : decode code 1263 = .ok (.if_icmp .eq 51, 3) := by decide +kernel
theorem dL_law_1266 : decode code 1266 = .ok (.iconst 0, 1) := by decide +kernel
theorem dL_law_1267 : decode code 1267 = .ok (.ireturn, 1) := by decide +kernel
theorem dL_law_1268 : decode code 1268 = .ok (.aload_n 1, 1) := by decide +kernel
theorem dL_law_1269 : decode code 1269 = .ok (.aload_n 0, 1) := by decide +kernel
theorem dL_law_1270 : decode code 1270 = .ok (.iload_n 3, 1) := by decide +kernel
theorem dL_law_1271 : decode code 1271 = .ok (.iconst 1, 1) := by decide +kernel
theorem dL_law_1272 : decode code 1272 = .ok (.iadd, 1) := by decide +kernel
theorem dL_law_1273 : decode code 1273 = .ok (.iaload, 1) := by decide +kernel
theorem dL_law_1274 : decode code 1274 = .ok (.invokevirtual 174, 3) := by decide +kernel
theorem dL_law_1277 : decode code 1277 = .ok (.aload_n 2, 1) := by decide +kernel
theorem dL_law_1278 : decode code 1278 = .ok (.aload_n 0, 1) := by decide +kernel
theorem dL_law_1279 : decode code 1279 = .ok (.iload_n 3, 1) := by decide +kernel
theorem dL_law_1280 : decode code 1280 = .ok (.iconst 1, 1) := by decide +kernel
theorem dL_law_1281 : decode code 1281 = .ok (.iadd, 1) := by decide +kernel
theorem dL_law_1282 : decode code 1282 = .ok (.iaload, 1) := by decide +kernel
theorem dL_law_1283 : decode code 1283 = .ok (.invokevirtual 177, 3) := by decide +kernel
theorem dL_law_1286 : decode code 1286 = .ok (.if_icmp .eq 28, 3) := by decide +kernel
theorem dL_law_1289 : decode code 1289 = .ok (.iconst 0, 1) := by decide +kernel
theorem dL_law_1290 : decode code 1290 = .ok (.ireturn, 1) := by decide +kernel
theorem dL_law_1291 : decode code 1291 = .ok (.aload_n 1, 1) := by decide +kernel
theorem dL_law_1292 : decode code 1292 = .ok (.aload_n 0, 1) := by decide +kernel
theorem dL_law_1293 : decode code 1293 = .ok (.iload_n 3, 1) := by decide +kernel
theorem dL_law_1294 : decode code 1294 = .ok (.iconst 1, 1) := by decide +kernel
theorem dL_law_1295 : decode code 1295 = .ok (.iadd, 1) := by decide +kernel
theorem dL_law_1296 : decode code 1296 = .ok (.iaload, 1) := by decide +kernel
theorem dL_law_1297 : decode code 1297 = .ok (.invokevirtual 178, 3) := by decide +kernel
theorem dL_law_1300 : decode code 1300 = .ok (.aload_n 2, 1) := by decide +kernel
theorem dL_law_1301 : decode code 1301 = .ok (.aload_n 0, 1) := by decide +kernel
theorem dL_law_1302 : decode code 1302 = .ok (.iload_n 3, 1) := by decide +kernel
theorem dL_law_1303 : decode code 1303 = .ok (.iconst 1, 1) := by decide +kernel
theorem dL_law_1304 : decode code 1304 = .ok (.iadd, 1) := by decide +kernel
theorem dL_law_1305 : decode code 1305 = .ok (.iaload, 1) := by decide +kernel
theorem dL_law_1306 : decode code 1306 = .ok (.invokevirtual 181, 3) := by decide +kernel
theorem dL_law_1309 : decode code 1309 = .ok (.if_icmp .eq 5, 3) := by decide +kernel
theorem dL_law_1312 : decode code 1312 = .ok (.iconst 0, 1) := by decide +kernel
theorem dL_law_1313 : decode code 1313 = .ok (.ireturn, 1) := by decide +kernel
theorem dL_law_1314 : decode code 1314 = .ok (.iinc 3 6, 3) := by decide +kernel
theorem dL_law_1317 : decode code 1317 = .ok (.goto (-1299), 3) := by decide +kernel
theorem dL_law_1320 : decode code 1320 = .ok (.iconst 1, 1) := by decide +kernel
theorem dL_law_1321 : decode code 1321 = .ok (.ireturn, 1) := by decide +kernel

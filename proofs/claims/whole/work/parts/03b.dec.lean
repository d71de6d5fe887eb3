-- decode rows, by program (wip/whole/gen/emit_names.py)
theorem dX8_isBlank_25 : decode cX8_isBlank 25 = .ok (.goto 4, 3) := by decide +kernel
theorem dX8_isBlank_28 : decode cX8_isBlank 28 = .ok (.iconst 0, 1) := by decide +kernel
theorem dX8_isBlank_29 : decode cX8_isBlank 29 = .ok (.ireturn, 1) := by decide +kernel
theorem dX9_init_0 : decode cX9_init 0 = .ok (.aload_n 0, 1) := by decide +kernel
theorem dX9_init_1 : decode cX9_init 1 = .ok (.invokespecial 5, 3) := by decide +kernel
theorem dX9_init_4 : decode cX9_init 4 = .ok (.aload_n 0, 1) := by decide +kernel
theorem dX9_init_5 : decode cX9_init 5 = .ok (.bipush 10, 2) := by decide +kernel
theorem dX9_init_7 : decode cX9_init 7 = .ok (.newarray .int, 2) := by decide +kernel
theorem dX9_init_9 : decode cX9_init 9 = .ok (.putfield 11, 3) := by decide +kernel
theorem dX9_init_12 : decode cX9_init 12 = .ok (.aload_n 0, 1) := by decide +kernel
theorem dX9_init_13 : decode cX9_init 13 = .ok (.bipush 10, 2) := by decide +kernel
theorem dX9_init_15 : decode cX9_init 15 = .ok (.newarray .int, 2) := by decide +kernel
theorem dX9_init_17 : decode cX9_init 17 = .ok (.putfield 17, 3) := by decide +kernel
theorem dX9_init_20 : decode cX9_init 20 = .ok (.aload_n 0, 1) := by decide +kernel
theorem dX9_init_21 : decode cX9_init 21 = .ok (.bipush 10, 2) := by decide +kernel
theorem dX9_init_23 : decode cX9_init 23 = .ok (.newarray .int, 2) := by decide +kernel
theorem dX9_init_25 : decode cX9_init 25 = .ok (.putfield 20, 3) := by decide +kernel
theorem dX9_init_28 : decode cX9_init 28 = .ok (.aload_n 0, 1) := by decide +kernel
theorem dX9_init_29 : decode cX9_init 29 = .ok (.bipush 6, 2) := by decide +kernel
theorem dX9_init_31 : decode cX9_init 31 = .ok (.newarray .int, 2) := by decide +kernel
theorem dX9_init_33 : decode cX9_init 33 = .ok (.putfield 23, 3) := by decide +kernel
theorem dX9_init_36 : decode cX9_init 36 = .ok (.aload_n 0, 1) := by decide +kernel
theorem dX9_init_37 : decode cX9_init 37 = .ok (.bipush 6, 2) := by decide +kernel
theorem dX9_init_39 : decode cX9_init 39 = .ok (.newarray .int, 2) := by decide +kernel
theorem dX9_init_41 : decode cX9_init 41 = .ok (.putfield 26, 3) := by decide +kernel
theorem dX9_init_44 : decode cX9_init 44 = .ok (.aload_n 0, 1) := by decide +kernel
theorem dX9_init_45 : decode cX9_init 45 = .ok (.bipush 6, 2) := by decide +kernel
theorem dX9_init_47 : decode cX9_init 47 = .ok (.newarray .int, 2) := by decide +kernel
theorem dX9_init_49 : decode cX9_init 49 = .ok (.putfield 29, 3) := by decide +kernel
theorem dX9_init_52 : decode cX9_init 52 = .ok (.aload_n 0, 1) := by decide +kernel
theorem dX9_init_53 : decode cX9_init 53 = .ok (.iconst 5, 1) := by decide +kernel
theorem dX9_init_54 : decode cX9_init 54 = .ok (.newarray .int, 2) := by decide +kernel
theorem dX9_init_56 : decode cX9_init 56 = .ok (.putfield 32, 3) := by decide +kernel
theorem dX9_init_59 : decode cX9_init 59 = .ok (.aload_n 0, 1) := by decide +kernel
theorem dX9_init_60 : decode cX9_init 60 = .ok (.iconst 4, 1) := by decide +kernel
theorem dX9_init_61 : decode cX9_init 61 = .ok (.newarray .int, 2) := by decide +kernel
theorem dX9_init_63 : decode cX9_init 63 = .ok (.putfield 35, 3) := by decide +kernel
theorem dX9_init_66 : decode cX9_init 66 = .ok (.aload_n 0, 1) := by decide +kernel
theorem dX9_init_67 : decode cX9_init 67 = .ok (.sipush 407, 3) := by decide +kernel
theorem dX9_init_70 : decode cX9_init 70 = .ok (.newarray .int, 2) := by decide +kernel
theorem dX9_init_72 : decode cX9_init 72 = .ok (.putfield 38, 3) := by decide +kernel
theorem dX9_init_75 : decode cX9_init 75 = .ok (.aload_n 0, 1) := by decide +kernel
theorem dX9_init_76 : decode cX9_init 76 = .ok (.invokevirtual 41, 3) := by decide +kernel
theorem dX9_init_79 : decode cX9_init 79 = .ok (.return_, 1) := by decide +kernel
theorem dX9_clear_0 : decode cX9_clear 0 = .ok (.aload_n 0, 1) := by decide +kernel
theorem dX9_clear_1 : decode cX9_clear 1 = .ok (.iconst 0, 1) := by decide +kernel
theorem dX9_clear_2 : decode cX9_clear 2 = .ok (.putfield 44, 3) := by decide +kernel
theorem dX9_clear_5 : decode cX9_clear 5 = .ok (.aload_n 0, 1) := by decide +kernel
theorem dX9_clear_6 : decode cX9_clear 6 = .ok (.iconst 0, 1) := by decide +kernel
theorem dX9_clear_7 : decode cX9_clear 7 = .ok (.putfield 48, 3) := by decide +kernel
theorem dX9_clear_10 : decode cX9_clear 10 = .ok (.aload_n 0, 1) := by decide +kernel
theorem dX9_clear_11 : decode cX9_clear 11 = .ok (.iconst 0, 1) := by decide +kernel
theorem dX9_clear_12 : decode cX9_clear 12 = .ok (.putfield 51, 3) := by decide +kernel
theorem dX9_clear_15 : decode cX9_clear 15 = .ok (.aload_n 0, 1) := by decide +kernel
theorem dX9_clear_16 : decode cX9_clear 16 = .ok (.iconst 0, 1) := by decide +kernel
theorem dX9_clear_17 : decode cX9_clear 17 = .ok (.putfield 54, 3) := by decide +kernel
theorem dX9_clear_20 : decode cX9_clear 20 = .ok (.aload_n 0, 1) := by decide +kernel
theorem dX9_clear_21 : decode cX9_clear 21 = .ok (.iconst 0, 1) := by decide +kernel
theorem dX9_clear_22 : decode cX9_clear 22 = .ok (.putfield 57, 3) := by decide +kernel
theorem dX9_clear_25 : decode cX9_clear 25 = .ok (.aload_n 0, 1) := by decide +kernel
theorem dX9_clear_26 : decode cX9_clear 26 = .ok (.iconst 0, 1) := by decide +kernel
theorem dX9_clear_27 : decode cX9_clear 27 = .ok (.putfield 60, 3) := by decide +kernel
theorem dX9_clear_30 : decode cX9_clear 30 = .ok (.aload_n 0, 1) := by decide +kernel
theorem dX9_clear_31 : decode cX9_clear 31 = .ok (.iconst 0, 1) := by decide +kernel
theorem dX9_clear_32 : decode cX9_clear 32 = .ok (.putfield 63, 3) := by decide +kernel
theorem dX9_clear_35 : decode cX9_clear 35 = .ok (.aload_n 0, 1) := by decide +kernel
theorem dX9_clear_36 : decode cX9_clear 36 = .ok (.iconst 0, 1) := by decide +kernel
theorem dX9_clear_37 : decode cX9_clear 37 = .ok (.putfield 66, 3) := by decide +kernel
theorem dX9_clear_40 : decode cX9_clear 40 = .ok (.aload_n 0, 1) := by decide +kernel
theorem dX9_clear_41 : decode cX9_clear 41 = .ok (.getfield 35, 3) := by decide +kernel
theorem dX9_clear_44 : decode cX9_clear 44 = .ok (.iconst 0, 1) := by decide +kernel
theorem dX9_clear_45 : decode cX9_clear 45 = .ok (.aload_n 0, 1) := by decide +kernel
theorem dX9_clear_46 : decode cX9_clear 46 = .ok (.getfield 66, 3) := by decide +kernel
theorem dX9_clear_49 : decode cX9_clear 49 = .ok (.iastore, 1) := by decide +kernel
theorem dX9_clear_50 : decode cX9_clear 50 = .ok (.aload_n 0, 1) := by decide +kernel
theorem dX9_clear_51 : decode cX9_clear 51 = .ok (.iconst 1, 1) := by decide +kernel
theorem dX9_clear_52 : decode cX9_clear 52 = .ok (.iconst 0, 1) := by decide +kernel
theorem dX9_clear_53 : decode cX9_clear 53 = .ok (.invokevirtual 71, 3) := by decide +kernel
theorem dX9_clear_56 : decode cX9_clear 56 = .ok (.aload_n 0, 1) := by decide +kernel
theorem dX9_clear_57 : decode cX9_clear 57 = .ok (.iconst 3, 1) := by decide +kernel
theorem dX9_clear_58 : decode cX9_clear 58 = .ok (.iconst 0, 1) := by decide +kernel
theorem dX9_clear_59 : decode cX9_clear 59 = .ok (.invokevirtual 71, 3) := by decide +kernel
theorem dX9_clear_62 : decode cX9_clear 62 = .ok (.aload_n 0, 1) := by decide +kernel
theorem dX9_clear_63 : decode cX9_clear 63 = .ok (.getfield 35, 3) := by decide +kernel
theorem dX9_clear_66 : decode cX9_clear 66 = .ok (.iconst 1, 1) := by decide +kernel
theorem dX9_clear_67 : decode cX9_clear 67 = .ok (.aload_n 0, 1) := by decide +kernel
theorem dX9_clear_68 : decode cX9_clear 68 = .ok (.getfield 66, 3) := by decide +kernel
theorem dX9_clear_71 : decode cX9_clear 71 = .ok (.iastore, 1) := by decide +kernel
theorem dX9_clear_72 : decode cX9_clear 72 = .ok (.aload_n 0, 1) := by decide +kernel
theorem dX9_clear_73 : decode cX9_clear 73 = .ok (.iconst 0, 1) := by decide +kernel
theorem dX9_clear_74 : decode cX9_clear 74 = .ok (.iconst 1, 1) := by decide +kernel
theorem dX9_clear_75 : decode cX9_clear 75 = .ok (.invokevirtual 71, 3) := by decide +kernel
theorem dX9_clear_78 : decode cX9_clear 78 = .ok (.aload_n 0, 1) := by decide +kernel
theorem dX9_clear_79 : decode cX9_clear 79 = .ok (.iconst 3, 1) := by decide +kernel
theorem dX9_clear_80 : decode cX9_clear 80 = .ok (.iconst 0, 1) := by decide +kernel
theorem dX9_clear_81 : decode cX9_clear 81 = .ok (.invokevirtual 71, 3) := by decide +kernel
theorem dX9_clear_84 : decode cX9_clear 84 = .ok (.aload_n 0, 1) := by decide +kernel
theorem dX9_clear_85 : decode cX9_clear 85 = .ok (.getfield 35, 3) := by decide +kernel
theorem dX9_clear_88 : decode cX9_clear 88 = .ok (.iconst 2, 1) := by decide +kernel
theorem dX9_clear_89 : decode cX9_clear 89 = .ok (.aload_n 0, 1) := by decide +kernel
theorem dX9_clear_90 : decode cX9_clear 90 = .ok (.getfield 66, 3) := by decide +kernel
theorem dX9_clear_93 : decode cX9_clear 93 = .ok (.iastore, 1) := by decide +kernel
theorem dX9_clear_94 : decode cX9_clear 94 = .ok (.aload_n 0, 1) := by decide +kernel
theorem dX9_clear_95 : decode cX9_clear 95 = .ok (.getfield 35, 3) := by decide +kernel
theorem dX9_clear_98 : decode cX9_clear 98 = .ok (.iconst 3, 1) := by decide +kernel
theorem dX9_clear_99 : decode cX9_clear 99 = .ok (.aload_n 0, 1) := by decide +kernel
theorem dX9_clear_100 : decode cX9_clear 100 = .ok (.getfield 66, 3) := by decide +kernel
theorem dX9_clear_103 : decode cX9_clear 103 = .ok (.iastore, 1) := by decide +kernel
theorem dX9_clear_104 : decode cX9_clear 104 = .ok (.aload_n 0, 1) := by decide +kernel
theorem dX9_clear_105 : decode cX9_clear 105 = .ok (.iconst 0, 1) := by decide +kernel
theorem dX9_clear_106 : decode cX9_clear 106 = .ok (.iconst 0, 1) := by decide +kernel
theorem dX9_clear_107 : decode cX9_clear 107 = .ok (.invokevirtual 71, 3) := by decide +kernel
theorem dX9_clear_110 : decode cX9_clear 110 = .ok (.aload_n 0, 1) := by decide +kernel
theorem dX9_clear_111 : decode cX9_clear 111 = .ok (.iconst 3, 1) := by decide +kernel
theorem dX9_clear_112 : decode cX9_clear 112 = .ok (.iconst 0, 1) := by decide +kernel
theorem dX9_clear_113 : decode cX9_clear 113 = .ok (.invokevirtual 71, 3) := by decide +kernel
theorem dX9_clear_116 : decode cX9_clear 116 = .ok (.return_, 1) := by decide +kernel
theorem dX9_addStreet_0 : decode cX9_addStreet 0 = .ok (.aload_n 0, 1) := by decide +kernel
theorem dX9_addStreet_1 : decode cX9_addStreet 1 = .ok (.getfield 48, 3) := by decide +kernel
theorem dX9_addStreet_4 : decode cX9_addStreet 4 = .ok (.bipush 10, 2) := by decide +kernel
theorem dX9_addStreet_6 : decode cX9_addStreet 6 = .ok (.if_icmp .ge 43, 3) := by decide +kernel
theorem dX9_addStreet_9 : decode cX9_addStreet 9 = .ok (.aload_n 0, 1) := by decide +kernel
theorem dX9_addStreet_10 : decode cX9_addStreet 10 = .ok (.getfield 11, 3) := by decide +kernel
theorem dX9_addStreet_13 : decode cX9_addStreet 13 = .ok (.aload_n 0, 1) := by decide +kernel
theorem dX9_addStreet_14 : decode cX9_addStreet 14 = .ok (.getfield 48, 3) := by decide +kernel
theorem dX9_addStreet_17 : decode cX9_addStreet 17 = .ok (.iload_n 1, 1) := by decide +kernel
theorem dX9_addStreet_18 : decode cX9_addStreet 18 = .ok (.iastore, 1) := by decide +kernel
theorem dX9_addStreet_19 : decode cX9_addStreet 19 = .ok (.aload_n 0, 1) := by decide +kernel
theorem dX9_addStreet_20 : decode cX9_addStreet 20 = .ok (.getfield 17, 3) := by decide +kernel
theorem dX9_addStreet_23 : decode cX9_addStreet 23 = .ok (.aload_n 0, 1) := by decide +kernel
theorem dX9_addStreet_24 : decode cX9_addStreet 24 = .ok (.getfield 48, 3) := by decide +kernel
theorem dX9_addStreet_27 : decode cX9_addStreet 27 = .ok (.iload_n 2, 1) := by decide +kernel
theorem dX9_addStreet_28 : decode cX9_addStreet 28 = .ok (.iastore, 1) := by decide +kernel
theorem dX9_addStreet_29 : decode cX9_addStreet 29 = .ok (.aload_n 0, 1) := by decide +kernel
theorem dX9_addStreet_30 : decode cX9_addStreet 30 = .ok (.getfield 20, 3) := by decide +kernel
theorem dX9_addStreet_33 : decode cX9_addStreet 33 = .ok (.aload_n 0, 1) := by decide +kernel
theorem dX9_addStreet_34 : decode cX9_addStreet 34 = .ok (.getfield 48, 3) := by decide +kernel
theorem dX9_addStreet_37 : decode cX9_addStreet 37 = .ok (.iload_n 3, 1) := by decide +kernel
theorem dX9_addStreet_38 : decode cX9_addStreet 38 = .ok (.iastore, 1) := by decide +kernel
theorem dX9_addStreet_39 : decode cX9_addStreet 39 = .ok (.aload_n 0, 1) := by decide +kernel
theorem dX9_addStreet_40 : decode cX9_addStreet 40 = .ok (.dup, 1) := by decide +kernel
theorem dX9_addStreet_41 : decode cX9_addStreet 41 = .ok (.getfield 48, 3) := by decide +kernel
theorem dX9_addStreet_44 : decode cX9_addStreet 44 = .ok (.iconst 1, 1) := by decide +kernel
theorem dX9_addStreet_45 : decode cX9_addStreet 45 = .ok (.iadd, 1) := by decide +kernel
theorem dX9_addStreet_46 : decode cX9_addStreet 46 = .ok (.putfield 48, 3) := by decide +kernel
theorem dX9_addStreet_49 : decode cX9_addStreet 49 = .ok (.return_, 1) := by decide +kernel
theorem dX9_addYoung_0 : decode cX9_addYoung 0 = .ok (.aload_n 0, 1) := by decide +kernel
theorem dX9_addYoung_1 : decode cX9_addYoung 1 = .ok (.getfield 51, 3) := by decide +kernel
theorem dX9_addYoung_4 : decode cX9_addYoung 4 = .ok (.bipush 6, 2) := by decide +kernel
theorem dX9_addYoung_6 : decode cX9_addYoung 6 = .ok (.if_icmp .ge 43, 3) := by decide +kernel
theorem dX9_addYoung_9 : decode cX9_addYoung 9 = .ok (.aload_n 0, 1) := by decide +kernel
theorem dX9_addYoung_10 : decode cX9_addYoung 10 = .ok (.getfield 23, 3) := by decide +kernel
theorem dX9_addYoung_13 : decode cX9_addYoung 13 = .ok (.aload_n 0, 1) := by decide +kernel
theorem dX9_addYoung_14 : decode cX9_addYoung 14 = .ok (.getfield 51, 3) := by decide +kernel
theorem dX9_addYoung_17 : decode cX9_addYoung 17 = .ok (.iload_n 1, 1) := by decide +kernel
theorem dX9_addYoung_18 : decode cX9_addYoung 18 = .ok (.iastore, 1) := by decide +kernel
theorem dX9_addYoung_19 : decode cX9_addYoung 19 = .ok (.aload_n 0, 1) := by decide +kernel
theorem dX9_addYoung_20 : decode cX9_addYoung 20 = .ok (.getfield 26, 3) := by decide +kernel
theorem dX9_addYoung_23 : decode cX9_addYoung 23 = .ok (.aload_n 0, 1) := by decide +kernel
theorem dX9_addYoung_24 : decode cX9_addYoung 24 = .ok (.getfield 51, 3) := by decide +kernel
theorem dX9_addYoung_27 : decode cX9_addYoung 27 = .ok (.iload_n 2, 1) := by decide +kernel
theorem dX9_addYoung_28 : decode cX9_addYoung 28 = .ok (.iastore, 1) := by decide +kernel
theorem dX9_addYoung_29 : decode cX9_addYoung 29 = .ok (.aload_n 0, 1) := by decide +kernel
theorem dX9_addYoung_30 : decode cX9_addYoung 30 = .ok (.getfield 29, 3) := by decide +kernel
theorem dX9_addYoung_33 : decode cX9_addYoung 33 = .ok (.aload_n 0, 1) := by decide +kernel
theorem dX9_addYoung_34 : decode cX9_addYoung 34 = .ok (.getfield 51, 3) := by decide +kernel
theorem dX9_addYoung_37 : decode cX9_addYoung 37 = .ok (.iload_n 3, 1) := by decide +kernel
theorem dX9_addYoung_38 : decode cX9_addYoung 38 = .ok (.iastore, 1) := by decide +kernel
theorem dX9_addYoung_39 : decode cX9_addYoung 39 = .ok (.aload_n 0, 1) := by decide +kernel
theorem dX9_addYoung_40 : decode cX9_addYoung 40 = .ok (.dup, 1) := by decide +kernel
theorem dX9_addYoung_41 : decode cX9_addYoung 41 = .ok (.getfield 51, 3) := by decide +kernel
theorem dX9_addYoung_44 : decode cX9_addYoung 44 = .ok (.iconst 1, 1) := by decide +kernel
theorem dX9_addYoung_45 : decode cX9_addYoung 45 = .ok (.iadd, 1) := by decide +kernel
theorem dX9_addYoung_46 : decode cX9_addYoung 46 = .ok (.putfield 51, 3) := by decide +kernel
theorem dX9_addYoung_49 : decode cX9_addYoung 49 = .ok (.return_, 1) := by decide +kernel
theorem dX9_addWord_0 : decode cX9_addWord 0 = .ok (.aload_n 0, 1) := by decide +kernel
theorem dX9_addWord_1 : decode cX9_addWord 1 = .ok (.getfield 54, 3) := by decide +kernel
theorem dX9_addWord_4 : decode cX9_addWord 4 = .ok (.iconst 5, 1) := by decide +kernel
theorem dX9_addWord_5 : decode cX9_addWord 5 = .ok (.if_icmp .ge 23, 3) := by decide +kernel
theorem dX9_addWord_8 : decode cX9_addWord 8 = .ok (.aload_n 0, 1) := by decide +kernel
theorem dX9_addWord_9 : decode cX9_addWord 9 = .ok (.getfield 32, 3) := by decide +kernel
theorem dX9_addWord_12 : decode cX9_addWord 12 = .ok (.aload_n 0, 1) := by decide +kernel
theorem dX9_addWord_13 : decode cX9_addWord 13 = .ok (.getfield 54, 3) := by decide +kernel
theorem dX9_addWord_16 : decode cX9_addWord 16 = .ok (.iload_n 1, 1) := by decide +kernel
theorem dX9_addWord_17 : decode cX9_addWord 17 = .ok (.iastore, 1) := by decide +kernel
theorem dX9_addWord_18 : decode cX9_addWord 18 = .ok (.aload_n 0, 1) := by decide +kernel
theorem dX9_addWord_19 : decode cX9_addWord 19 = .ok (.dup, 1) := by decide +kernel
theorem dX9_addWord_20 : decode cX9_addWord 20 = .ok (.getfield 54, 3) := by decide +kernel
theorem dX9_addWord_23 : decode cX9_addWord 23 = .ok (.iconst 1, 1) := by decide +kernel
theorem dX9_addWord_24 : decode cX9_addWord 24 = .ok (.iadd, 1) := by decide +kernel
theorem dX9_addWord_25 : decode cX9_addWord 25 = .ok (.putfield 54, 3) := by decide +kernel
theorem dX9_addWord_28 : decode cX9_addWord 28 = .ok (.return_, 1) := by decide +kernel
theorem dX9_emit_0 : decode cX9_emit 0 = .ok (.aload_n 0, 1) := by decide +kernel
theorem dX9_emit_1 : decode cX9_emit 1 = .ok (.getfield 66, 3) := by decide +kernel
theorem dX9_emit_4 : decode cX9_emit 4 = .ok (.sipush 407, 3) := by decide +kernel
theorem dX9_emit_7 : decode cX9_emit 7 = .ok (.if_icmp .ge 28, 3) := by decide +kernel
theorem dX9_emit_10 : decode cX9_emit 10 = .ok (.aload_n 0, 1) := by decide +kernel
theorem dX9_emit_11 : decode cX9_emit 11 = .ok (.getfield 38, 3) := by decide +kernel
theorem dX9_emit_14 : decode cX9_emit 14 = .ok (.aload_n 0, 1) := by decide +kernel
theorem dX9_emit_15 : decode cX9_emit 15 = .ok (.getfield 66, 3) := by decide +kernel
theorem dX9_emit_18 : decode cX9_emit 18 = .ok (.iload_n 1, 1) := by decide +kernel
theorem dX9_emit_19 : decode cX9_emit 19 = .ok (.bipush 14, 2) := by decide +kernel
theorem dX9_emit_21 : decode cX9_emit 21 = .ok (.ishl, 1) := by decide +kernel
theorem dX9_emit_22 : decode cX9_emit 22 = .ok (.iload_n 2, 1) := by decide +kernel
theorem dX9_emit_23 : decode cX9_emit 23 = .ok (.ior, 1) := by decide +kernel
theorem dX9_emit_24 : decode cX9_emit 24 = .ok (.iastore, 1) := by decide +kernel
theorem dX9_emit_25 : decode cX9_emit 25 = .ok (.aload_n 0, 1) := by decide +kernel
theorem dX9_emit_26 : decode cX9_emit 26 = .ok (.dup, 1) := by decide +kernel
theorem dX9_emit_27 : decode cX9_emit 27 = .ok (.getfield 66, 3) := by decide +kernel
theorem dX9_emit_30 : decode cX9_emit 30 = .ok (.iconst 1, 1) := by decide +kernel
theorem dX9_emit_31 : decode cX9_emit 31 = .ok (.iadd, 1) := by decide +kernel
theorem dX9_emit_32 : decode cX9_emit 32 = .ok (.putfield 66, 3) := by decide +kernel
theorem dX9_emit_35 : decode cX9_emit 35 = .ok (.return_, 1) := by decide +kernel
theorem dX9_aimAtEnd_0 : decode cX9_aimAtEnd 0 = .ok (.iload_n 1, 1) := by decide +kernel
theorem dX9_aimAtEnd_1 : decode cX9_aimAtEnd 1 = .ok (.ifCond .lt 23, 3) := by decide +kernel
theorem dX9_aimAtEnd_4 : decode cX9_aimAtEnd 4 = .ok (.iload_n 1, 1) := by decide +kernel
theorem dX9_aimAtEnd_5 : decode cX9_aimAtEnd 5 = .ok (.sipush 407, 3) := by decide +kernel
theorem dX9_aimAtEnd_8 : decode cX9_aimAtEnd 8 = .ok (.if_icmp .ge 16, 3) := by decide +kernel
theorem dX9_aimAtEnd_11 : decode cX9_aimAtEnd 11 = .ok (.aload_n 0, 1) := by decide +kernel
theorem dX9_aimAtEnd_12 : decode cX9_aimAtEnd 12 = .ok (.getfield 38, 3) := by decide +kernel
theorem dX9_aimAtEnd_15 : decode cX9_aimAtEnd 15 = .ok (.iload_n 1, 1) := by decide +kernel
theorem dX9_aimAtEnd_16 : decode cX9_aimAtEnd 16 = .ok (.ldc 75, 2) := by decide +kernel
theorem dX9_aimAtEnd_18 : decode cX9_aimAtEnd 18 = .ok (.aload_n 0, 1) := by decide +kernel
theorem dX9_aimAtEnd_19 : decode cX9_aimAtEnd 19 = .ok (.getfield 66, 3) := by decide +kernel
theorem dX9_aimAtEnd_22 : decode cX9_aimAtEnd 22 = .ok (.ior, 1) := by decide +kernel
theorem dX9_aimAtEnd_23 : decode cX9_aimAtEnd 23 = .ok (.iastore, 1) := by decide +kernel
theorem dX9_aimAtEnd_24 : decode cX9_aimAtEnd 24 = .ok (.return_, 1) := by decide +kernel
theorem dX9_streetsOf_0 : decode cX9_streetsOf 0 = .ok (.iconst 0, 1) := by decide +kernel
theorem dX9_streetsOf_1 : decode cX9_streetsOf 1 = .ok (.istore_n 2, 1) := by decide +kernel
theorem dX9_streetsOf_2 : decode cX9_streetsOf 2 = .ok (.iconst 0, 1) := by decide +kernel
theorem dX9_streetsOf_3 : decode cX9_streetsOf 3 = .ok (.istore_n 3, 1) := by decide +kernel
theorem dX9_streetsOf_4 : decode cX9_streetsOf 4 = .ok (.iload_n 3, 1) := by decide +kernel
theorem dX9_streetsOf_5 : decode cX9_streetsOf 5 = .ok (.aload_n 0, 1) := by decide +kernel
theorem dX9_streetsOf_6 : decode cX9_streetsOf 6 = .ok (.getfield 48, 3) := by decide +kernel
theorem dX9_streetsOf_9 : decode cX9_streetsOf 9 = .ok (.if_icmp .ge 35, 3) := by decide +kernel
theorem dX9_streetsOf_12 : decode cX9_streetsOf 12 = .ok (.aload_n 0, 1) := by decide +kernel
theorem dX9_streetsOf_13 : decode cX9_streetsOf 13 = .ok (.getfield 11, 3) := by decide +kernel
theorem dX9_streetsOf_16 : decode cX9_streetsOf 16 = .ok (.iload_n 3, 1) := by decide +kernel
theorem dX9_streetsOf_17 : decode cX9_streetsOf 17 = .ok (.iaload, 1) := by decide +kernel
theorem dX9_streetsOf_18 : decode cX9_streetsOf 18 = .ok (.iload_n 1, 1) := by decide +kernel
theorem dX9_streetsOf_19 : decode cX9_streetsOf 19 = .ok (.if_icmp .eq 13, 3) := by decide +kernel
theorem dX9_streetsOf_22 : decode cX9_streetsOf 22 = .ok (.aload_n 0, 1) := by decide +kernel
theorem dX9_streetsOf_23 : decode cX9_streetsOf 23 = .ok (.getfield 17, 3) := by decide +kernel
theorem dX9_streetsOf_26 : decode cX9_streetsOf 26 = .ok (.iload_n 3, 1) := by decide +kernel
theorem dX9_streetsOf_27 : decode cX9_streetsOf 27 = .ok (.iaload, 1) := by decide +kernel
theorem dX9_streetsOf_28 : decode cX9_streetsOf 28 = .ok (.iload_n 1, 1) := by decide +kernel
theorem dX9_streetsOf_29 : decode cX9_streetsOf 29 = .ok (.if_icmp .ne 9, 3) := by decide +kernel
theorem dX9_streetsOf_32 : decode cX9_streetsOf 32 = .ok (.iload_n 2, 1) := by decide +kernel
theorem dX9_streetsOf_33 : decode cX9_streetsOf 33 = .ok (.iconst 1, 1) := by decide +kernel
theorem dX9_streetsOf_34 : decode cX9_streetsOf 34 = .ok (.iload_n 3, 1) := by decide +kernel
theorem dX9_streetsOf_35 : decode cX9_streetsOf 35 = .ok (.ishl, 1) := by decide +kernel
theorem dX9_streetsOf_36 : decode cX9_streetsOf 36 = .ok (.ior, 1) := by decide +kernel
theorem dX9_streetsOf_37 : decode cX9_streetsOf 37 = .ok (.istore_n 2, 1) := by decide +kernel
theorem dX9_streetsOf_38 : decode cX9_streetsOf 38 = .ok (.iinc 3 1, 3) := by decide +kernel
theorem dX9_streetsOf_41 : decode cX9_streetsOf 41 = .ok (.goto (-37), 3) := by decide +kernel
theorem dX9_streetsOf_44 : decode cX9_streetsOf 44 = .ok (.iload_n 2, 1) := by decide +kernel
theorem dX9_streetsOf_45 : decode cX9_streetsOf 45 = .ok (.ireturn, 1) := by decide +kernel
theorem dX9_acrossFrom_0 : decode cX9_acrossFrom 0 = .ok (.aload_n 0, 1) := by decide +kernel
theorem dX9_acrossFrom_1 : decode cX9_acrossFrom 1 = .ok (.getfield 11, 3) := by decide +kernel
theorem dX9_acrossFrom_4 : decode cX9_acrossFrom 4 = .ok (.iload_n 2, 1) := by decide +kernel
theorem dX9_acrossFrom_5 : decode cX9_acrossFrom 5 = .ok (.iaload, 1) := by decide +kernel
theorem dX9_acrossFrom_6 : decode cX9_acrossFrom 6 = .ok (.iload_n 1, 1) := by decide +kernel
theorem dX9_acrossFrom_7 : decode cX9_acrossFrom 7 = .ok (.if_icmp .ne 10, 3) := by decide +kernel
theorem dX9_acrossFrom_10 : decode cX9_acrossFrom 10 = .ok (.aload_n 0, 1) := by decide +kernel
theorem dX9_acrossFrom_11 : decode cX9_acrossFrom 11 = .ok (.getfield 17, 3) := by decide +kernel
theorem dX9_acrossFrom_14 : decode cX9_acrossFrom 14 = .ok (.iload_n 2, 1) := by decide +kernel
theorem dX9_acrossFrom_15 : decode cX9_acrossFrom 15 = .ok (.iaload, 1) := by decide +kernel
theorem dX9_acrossFrom_16 : decode cX9_acrossFrom 16 = .ok (.ireturn, 1) := by decide +kernel
theorem dX9_acrossFrom_17 : decode cX9_acrossFrom 17 = .ok (.aload_n 0, 1) := by decide +kernel
theorem dX9_acrossFrom_18 : decode cX9_acrossFrom 18 = .ok (.getfield 17, 3) := by decide +kernel
theorem dX9_acrossFrom_21 : decode cX9_acrossFrom 21 = .ok (.iload_n 2, 1) := by decide +kernel
theorem dX9_acrossFrom_22 : decode cX9_acrossFrom 22 = .ok (.iaload, 1) := by decide +kernel
theorem dX9_acrossFrom_23 : decode cX9_acrossFrom 23 = .ok (.iload_n 1, 1) := by decide +kernel
theorem dX9_acrossFrom_24 : decode cX9_acrossFrom 24 = .ok (.if_icmp .ne 12, 3) := by decide +kernel
theorem dX9_acrossFrom_27 : decode cX9_acrossFrom 27 = .ok (.aload_n 0, 1) := by decide +kernel
theorem dX9_acrossFrom_28 : decode cX9_acrossFrom 28 = .ok (.getfield 11, 3) := by decide +kernel
theorem dX9_acrossFrom_31 : decode cX9_acrossFrom 31 = .ok (.iload_n 2, 1) := by decide +kernel
theorem dX9_acrossFrom_32 : decode cX9_acrossFrom 32 = .ok (.iaload, 1) := by decide +kernel
theorem dX9_acrossFrom_33 : decode cX9_acrossFrom 33 = .ok (.goto 4, 3) := by decide +kernel
theorem dX9_acrossFrom_36 : decode cX9_acrossFrom 36 = .ok (.iconst (-1), 1) := by decide +kernel
theorem dX9_acrossFrom_37 : decode cX9_acrossFrom 37 = .ok (.ireturn, 1) := by decide +kernel
theorem dX10_init_0 : decode cX10_init 0 = .ok (.aload_n 0, 1) := by decide +kernel
theorem dX10_init_1 : decode cX10_init 1 = .ok (.invokespecial 3, 3) := by decide +kernel
theorem dX10_init_4 : decode cX10_init 4 = .ok (.aload_n 0, 1) := by decide +kernel
theorem dX10_init_5 : decode cX10_init 5 = .ok (.bipush 7, 2) := by decide +kernel
theorem dX10_init_7 : decode cX10_init 7 = .ok (.newarray .int, 2) := by decide +kernel
theorem dX10_init_9 : decode cX10_init 9 = .ok (.putfield 9, 3) := by decide +kernel
theorem dX10_init_12 : decode cX10_init 12 = .ok (.aload_n 0, 1) := by decide +kernel
theorem dX10_init_13 : decode cX10_init 13 = .ok (.bipush 49, 2) := by decide +kernel
theorem dX10_init_15 : decode cX10_init 15 = .ok (.newarray .int, 2) := by decide +kernel
theorem dX10_init_17 : decode cX10_init 17 = .ok (.putfield 15, 3) := by decide +kernel
theorem dX10_init_20 : decode cX10_init 20 = .ok (.return_, 1) := by decide +kernel
theorem dX10_fewest_0 : decode cX10_fewest 0 = .ok (.aload_n 0, 1) := by decide +kernel
theorem dX10_fewest_1 : decode cX10_fewest 1 = .ok (.aload_n 1, 1) := by decide +kernel
theorem dX10_fewest_2 : decode cX10_fewest 2 = .ok (.iload_n 2, 1) := by decide +kernel
theorem dX10_fewest_3 : decode cX10_fewest 3 = .ok (.iload 4, 2) := by decide +kernel
theorem dX10_fewest_5 : decode cX10_fewest 5 = .ok (.invokevirtual 18, 3) := by decide +kernel
theorem dX10_fewest_8 : decode cX10_fewest 8 = .ok (.aload_n 0, 1) := by decide +kernel
theorem dX10_fewest_9 : decode cX10_fewest 9 = .ok (.getfield 9, 3) := by decide +kernel
theorem dX10_fewest_12 : decode cX10_fewest 12 = .ok (.iload_n 3, 1) := by decide +kernel
theorem dX10_fewest_13 : decode cX10_fewest 13 = .ok (.iaload, 1) := by decide +kernel
theorem dX10_fewest_14 : decode cX10_fewest 14 = .ok (.sipush 1000, 3) := by decide +kernel
theorem dX10_fewest_17 : decode cX10_fewest 17 = .ok (.if_icmp .lt 8, 3) := by decide +kernel
theorem dX10_fewest_20 : decode cX10_fewest 20 = .ok (.bipush (-2), 2) := by decide +kernel
theorem dX10_fewest_22 : decode cX10_fewest 22 = .ok (.goto 9, 3) := by decide +kernel
theorem dX10_fewest_25 : decode cX10_fewest 25 = .ok (.aload_n 0, 1) := by decide +kernel
theorem dX10_fewest_26 : decode cX10_fewest 26 = .ok (.getfield 9, 3) := by decide +kernel
theorem dX10_fewest_29 : decode cX10_fewest 29 = .ok (.iload_n 3, 1) := by decide +kernel
theorem dX10_fewest_30 : decode cX10_fewest 30 = .ok (.iaload, 1) := by decide +kernel
theorem dX10_fewest_31 : decode cX10_fewest 31 = .ok (.ireturn, 1) := by decide +kernel
theorem dX10_reached_0 : decode cX10_reached 0 = .ok (.aload_n 0, 1) := by decide +kernel
theorem dX10_reached_1 : decode cX10_reached 1 = .ok (.aload_n 1, 1) := by decide +kernel
theorem dX10_reached_2 : decode cX10_reached 2 = .ok (.iload_n 2, 1) := by decide +kernel
theorem dX10_reached_3 : decode cX10_reached 3 = .ok (.iload_n 3, 1) := by decide +kernel
theorem dX10_reached_4 : decode cX10_reached 4 = .ok (.invokevirtual 18, 3) := by decide +kernel
theorem dX10_reached_7 : decode cX10_reached 7 = .ok (.iconst 0, 1) := by decide +kernel
theorem dX10_reached_8 : decode cX10_reached 8 = .ok (.istore 4, 2) := by decide +kernel
theorem dX10_reached_10 : decode cX10_reached 10 = .ok (.iconst 0, 1) := by decide +kernel
theorem dX10_reached_11 : decode cX10_reached 11 = .ok (.istore 5, 2) := by decide +kernel
theorem dX10_reached_13 : decode cX10_reached 13 = .ok (.iload 5, 2) := by decide +kernel
theorem dX10_reached_15 : decode cX10_reached 15 = .ok (.aload_n 1, 1) := by decide +kernel
theorem dX10_reached_16 : decode cX10_reached 16 = .ok (.getfield 22, 3) := by decide +kernel
theorem dX10_reached_19 : decode cX10_reached 19 = .ok (.if_icmp .ge 28, 3) := by decide +kernel
theorem dX10_reached_22 : decode cX10_reached 22 = .ok (.aload_n 0, 1) := by decide +kernel
theorem dX10_reached_23 : decode cX10_reached 23 = .ok (.getfield 9, 3) := by decide +kernel
theorem dX10_reached_26 : decode cX10_reached 26 = .ok (.iload 5, 2) := by decide +kernel
theorem dX10_reached_28 : decode cX10_reached 28 = .ok (.iaload, 1) := by decide +kernel
theorem dX10_reached_29 : decode cX10_reached 29 = .ok (.ifCond .ne 12, 3) := by decide +kernel
theorem dX10_reached_32 : decode cX10_reached 32 = .ok (.iload 4, 2) := by decide +kernel
theorem dX10_reached_34 : decode cX10_reached 34 = .ok (.iconst 1, 1) := by decide +kernel
theorem dX10_reached_35 : decode cX10_reached 35 = .ok (.iload 5, 2) := by decide +kernel
theorem dX10_reached_37 : decode cX10_reached 37 = .ok (.ishl, 1) := by decide +kernel
theorem dX10_reached_38 : decode cX10_reached 38 = .ok (.ior, 1) := by decide +kernel
theorem dX10_reached_39 : decode cX10_reached 39 = .ok (.istore 4, 2) := by decide +kernel
theorem dX10_reached_41 : decode cX10_reached 41 = .ok (.iinc 5 1, 3) := by decide +kernel
theorem dX10_reached_44 : decode cX10_reached 44 = .ok (.goto (-31), 3) := by decide +kernel
theorem dX10_reached_47 : decode cX10_reached 47 = .ok (.iload 4, 2) := by decide +kernel
theorem dX10_reached_49 : decode cX10_reached 49 = .ok (.ireturn, 1) := by decide +kernel
theorem dX10_onlyWays_0 : decode cX10_onlyWays 0 = .ok (.iconst 0, 1) := by decide +kernel
theorem dX10_onlyWays_1 : decode cX10_onlyWays 1 = .ok (.istore_n 3, 1) := by decide +kernel
theorem dX10_onlyWays_2 : decode cX10_onlyWays 2 = .ok (.iconst 0, 1) := by decide +kernel
theorem dX10_onlyWays_3 : decode cX10_onlyWays 3 = .ok (.istore 4, 2) := by decide +kernel
theorem dX10_onlyWays_5 : decode cX10_onlyWays 5 = .ok (.iload 4, 2) := by decide +kernel
theorem dX10_onlyWays_7 : decode cX10_onlyWays 7 = .ok (.aload_n 1, 1) := by decide +kernel
theorem dX10_onlyWays_8 : decode cX10_onlyWays 8 = .ok (.getfield 28, 3) := by decide +kernel
theorem dX10_onlyWays_11 : decode cX10_onlyWays 11 = .ok (.if_icmp .ge 55, 3) := by decide +kernel
theorem dX10_onlyWays_14 : decode cX10_onlyWays 14 = .ok (.iconst 1, 1) := by decide +kernel
theorem dX10_onlyWays_15 : decode cX10_onlyWays 15 = .ok (.iload 4, 2) := by decide +kernel
theorem dX10_onlyWays_17 : decode cX10_onlyWays 17 = .ok (.ishl, 1) := by decide +kernel
theorem dX10_onlyWays_18 : decode cX10_onlyWays 18 = .ok (.istore 5, 2) := by decide +kernel
theorem dX10_onlyWays_20 : decode cX10_onlyWays 20 = .ok (.iload_n 2, 1) := by decide +kernel
theorem dX10_onlyWays_21 : decode cX10_onlyWays 21 = .ok (.iload 5, 2) := by decide +kernel
theorem dX10_onlyWays_23 : decode cX10_onlyWays 23 = .ok (.iand, 1) := by decide +kernel
theorem dX10_onlyWays_24 : decode cX10_onlyWays 24 = .ok (.ifCond .eq 36, 3) := by decide +kernel
theorem dX10_onlyWays_27 : decode cX10_onlyWays 27 = .ok (.aload_n 0, 1) := by decide +kernel
theorem dX10_onlyWays_28 : decode cX10_onlyWays 28 = .ok (.aload_n 1, 1) := by decide +kernel
theorem dX10_onlyWays_29 : decode cX10_onlyWays 29 = .ok (.aload_n 1, 1) := by decide +kernel
theorem dX10_onlyWays_30 : decode cX10_onlyWays 30 = .ok (.getfield 31, 3) := by decide +kernel
theorem dX10_onlyWays_33 : decode cX10_onlyWays 33 = .ok (.iload 4, 2) := by decide +kernel
theorem dX10_onlyWays_35 : decode cX10_onlyWays 35 = .ok (.iaload, 1) := by decide +kernel
theorem dX10_onlyWays_36 : decode cX10_onlyWays 36 = .ok (.aload_n 1, 1) := by decide +kernel
theorem dX10_onlyWays_37 : decode cX10_onlyWays 37 = .ok (.getfield 34, 3) := by decide +kernel
theorem dX10_onlyWays_40 : decode cX10_onlyWays 40 = .ok (.iload 4, 2) := by decide +kernel
theorem dX10_onlyWays_42 : decode cX10_onlyWays 42 = .ok (.iaload, 1) := by decide +kernel
theorem dX10_onlyWays_43 : decode cX10_onlyWays 43 = .ok (.iload_n 2, 1) := by decide +kernel
theorem dX10_onlyWays_44 : decode cX10_onlyWays 44 = .ok (.iload 5, 2) := by decide +kernel
theorem dX10_onlyWays_46 : decode cX10_onlyWays 46 = .ok (.iconst (-1), 1) := by decide +kernel
theorem dX10_onlyWays_47 : decode cX10_onlyWays 47 = .ok (.ixor, 1) := by decide +kernel
theorem dX10_onlyWays_48 : decode cX10_onlyWays 48 = .ok (.iand, 1) := by decide +kernel
theorem dX10_onlyWays_49 : decode cX10_onlyWays 49 = .ok (.invokevirtual 37, 3) := by decide +kernel
theorem dX10_onlyWays_52 : decode cX10_onlyWays 52 = .ok (.ifCond .eq 8, 3) := by decide +kernel
theorem dX10_onlyWays_55 : decode cX10_onlyWays 55 = .ok (.iload_n 3, 1) := by decide +kernel
theorem dX10_onlyWays_56 : decode cX10_onlyWays 56 = .ok (.iload 5, 2) := by decide +kernel
theorem dX10_onlyWays_58 : decode cX10_onlyWays 58 = .ok (.ior, 1) := by decide +kernel
theorem dX10_onlyWays_59 : decode cX10_onlyWays 59 = .ok (.istore_n 3, 1) := by decide +kernel
theorem dX10_onlyWays_60 : decode cX10_onlyWays 60 = .ok (.iinc 4 1, 3) := by decide +kernel
theorem dX10_onlyWays_63 : decode cX10_onlyWays 63 = .ok (.goto (-58), 3) := by decide +kernel
theorem dX10_onlyWays_66 : decode cX10_onlyWays 66 = .ok (.iload_n 3, 1) := by decide +kernel
theorem dX10_onlyWays_67 : decode cX10_onlyWays 67 = .ok (.ireturn, 1) := by decide +kernel
theorem dX10_shortestRound_0 : decode cX10_shortestRound 0 = .ok (.iconst 0, 1) := by decide +kernel
theorem dX10_shortestRound_1 : decode cX10_shortestRound 1 = .ok (.istore 4, 2) := by decide +kernel
theorem dX10_shortestRound_3 : decode cX10_shortestRound 3 = .ok (.iload 4, 2) := by decide +kernel
theorem dX10_shortestRound_5 : decode cX10_shortestRound 5 = .ok (.aload_n 1, 1) := by decide +kernel
theorem dX10_shortestRound_6 : decode cX10_shortestRound 6 = .ok (.getfield 22, 3) := by decide +kernel
theorem dX10_shortestRound_9 : decode cX10_shortestRound 9 = .ok (.if_icmp .ge 36, 3) := by decide +kernel
theorem dX10_shortestRound_12 : decode cX10_shortestRound 12 = .ok (.aload_n 0, 1) := by decide +kernel
theorem dX10_shortestRound_13 : decode cX10_shortestRound 13 = .ok (.aload_n 1, 1) := by decide +kernel
theorem dX10_shortestRound_14 : decode cX10_shortestRound 14 = .ok (.iload 4, 2) := by decide +kernel
theorem dX10_shortestRound_16 : decode cX10_shortestRound 16 = .ok (.iconst 0, 1) := by decide +kernel
theorem dX10_shortestRound_17 : decode cX10_shortestRound 17 = .ok (.invokevirtual 18, 3) := by decide +kernel
theorem dX10_shortestRound_20 : decode cX10_shortestRound 20 = .ok (.aload_n 0, 1) := by decide +kernel
theorem dX10_shortestRound_21 : decode cX10_shortestRound 21 = .ok (.getfield 9, 3) := by decide +kernel
theorem dX10_shortestRound_24 : decode cX10_shortestRound 24 = .ok (.iconst 0, 1) := by decide +kernel
theorem dX10_shortestRound_25 : decode cX10_shortestRound 25 = .ok (.aload_n 0, 1) := by decide +kernel
theorem dX10_shortestRound_26 : decode cX10_shortestRound 26 = .ok (.getfield 15, 3) := by decide +kernel
theorem dX10_shortestRound_29 : decode cX10_shortestRound 29 = .ok (.iload 4, 2) := by decide +kernel
theorem dX10_shortestRound_31 : decode cX10_shortestRound 31 = .ok (.bipush 7, 2) := by decide +kernel
theorem dX10_shortestRound_33 : decode cX10_shortestRound 33 = .ok (.imul, 1) := by decide +kernel
theorem dX10_shortestRound_34 : decode cX10_shortestRound 34 = .ok (.bipush 7, 2) := by decide +kernel
theorem dX10_shortestRound_36 : decode cX10_shortestRound 36 = .ok (.invokestatic 41, 3) := by decide +kernel
theorem dX10_shortestRound_39 : decode cX10_shortestRound 39 = .ok (.iinc 4 1, 3) := by decide +kernel
theorem dX10_shortestRound_42 : decode cX10_shortestRound 42 = .ok (.goto (-39), 3) := by decide +kernel
theorem dX10_shortestRound_45 : decode cX10_shortestRound 45 = .ok (.aload_n 0, 1) := by decide +kernel
theorem dX10_shortestRound_46 : decode cX10_shortestRound 46 = .ok (.iload_n 2, 1) := by decide +kernel
theorem dX10_shortestRound_47 : decode cX10_shortestRound 47 = .ok (.iload_n 3, 1) := by decide +kernel
theorem dX10_shortestRound_48 : decode cX10_shortestRound 48 = .ok (.iconst 0, 1) := by decide +kernel
theorem dX10_shortestRound_49 : decode cX10_shortestRound 49 = .ok (.invokevirtual 47, 3) := by decide +kernel
theorem dX10_shortestRound_52 : decode cX10_shortestRound 52 = .ok (.istore 4, 2) := by decide +kernel
theorem dX10_shortestRound_54 : decode cX10_shortestRound 54 = .ok (.iload 4, 2) := by decide +kernel
theorem dX10_shortestRound_56 : decode cX10_shortestRound 56 = .ok (.sipush 1000, 3) := by decide +kernel
theorem dX10_shortestRound_59 : decode cX10_shortestRound 59 = .ok (.if_icmp .lt 8, 3) := by decide +kernel
theorem dX10_shortestRound_62 : decode cX10_shortestRound 62 = .ok (.bipush (-2), 2) := by decide +kernel
theorem dX10_shortestRound_64 : decode cX10_shortestRound 64 = .ok (.goto 5, 3) := by decide +kernel
theorem dX10_shortestRound_67 : decode cX10_shortestRound 67 = .ok (.iload 4, 2) := by decide +kernel
theorem dX10_shortestRound_69 : decode cX10_shortestRound 69 = .ok (.ireturn, 1) := by decide +kernel
theorem dX10_nearestToAll_0 : decode cX10_nearestToAll 0 = .ok (.iconst (-1), 1) := by decide +kernel
theorem dX10_nearestToAll_1 : decode cX10_nearestToAll 1 = .ok (.istore_n 2, 1) := by decide +kernel
theorem dX10_nearestToAll_2 : decode cX10_nearestToAll 2 = .ok (.sipush 1000, 3) := by decide +kernel
theorem dX10_nearestToAll_5 : decode cX10_nearestToAll 5 = .ok (.istore_n 3, 1) := by decide +kernel
theorem dX10_nearestToAll_6 : decode cX10_nearestToAll 6 = .ok (.iconst 0, 1) := by decide +kernel
theorem dX10_nearestToAll_7 : decode cX10_nearestToAll 7 = .ok (.istore 4, 2) := by decide +kernel
theorem dX10_nearestToAll_9 : decode cX10_nearestToAll 9 = .ok (.iload 4, 2) := by decide +kernel
theorem dX10_nearestToAll_11 : decode cX10_nearestToAll 11 = .ok (.aload_n 1, 1) := by decide +kernel
theorem dX10_nearestToAll_12 : decode cX10_nearestToAll 12 = .ok (.getfield 51, 3) := by decide +kernel
theorem dX10_nearestToAll_15 : decode cX10_nearestToAll 15 = .ok (.getfield 22, 3) := by decide +kernel
theorem dX10_nearestToAll_18 : decode cX10_nearestToAll 18 = .ok (.if_icmp .ge 30, 3) := by decide +kernel
theorem dX10_nearestToAll_21 : decode cX10_nearestToAll 21 = .ok (.aload_n 0, 1) := by decide +kernel
theorem dX10_nearestToAll_22 : decode cX10_nearestToAll 22 = .ok (.aload_n 1, 1) := by decide +kernel
theorem dX10_nearestToAll_23 : decode cX10_nearestToAll 23 = .ok (.iload 4, 2) := by decide +kernel
theorem dX10_nearestToAll_25 : decode cX10_nearestToAll 25 = .ok (.invokevirtual 57, 3) := by decide +kernel
theorem dX10_nearestToAll_28 : decode cX10_nearestToAll 28 = .ok (.istore 5, 2) := by decide +kernel
theorem dX10_nearestToAll_30 : decode cX10_nearestToAll 30 = .ok (.iload 5, 2) := by decide +kernel
theorem dX10_nearestToAll_32 : decode cX10_nearestToAll 32 = .ok (.iload_n 3, 1) := by decide +kernel
theorem dX10_nearestToAll_33 : decode cX10_nearestToAll 33 = .ok (.if_icmp .ge 9, 3) := by decide +kernel
theorem dX10_nearestToAll_36 : decode cX10_nearestToAll 36 = .ok (.iload 5, 2) := by decide +kernel
theorem dX10_nearestToAll_38 : decode cX10_nearestToAll 38 = .ok (.istore_n 3, 1) := by decide +kernel
theorem dX10_nearestToAll_39 : decode cX10_nearestToAll 39 = .ok (.iload 4, 2) := by decide +kernel
theorem dX10_nearestToAll_41 : decode cX10_nearestToAll 41 = .ok (.istore_n 2, 1) := by decide +kernel
theorem dX10_nearestToAll_42 : decode cX10_nearestToAll 42 = .ok (.iinc 4 1, 3) := by decide +kernel
theorem dX10_nearestToAll_45 : decode cX10_nearestToAll 45 = .ok (.goto (-36), 3) := by decide +kernel
theorem dX10_nearestToAll_48 : decode cX10_nearestToAll 48 = .ok (.iload_n 2, 1) := by decide +kernel
theorem dX10_nearestToAll_49 : decode cX10_nearestToAll 49 = .ok (.ireturn, 1) := by decide +kernel
theorem dX10_stepsOfAll_0 : decode cX10_stepsOfAll 0 = .ok (.aload_n 0, 1) := by decide +kernel
theorem dX10_stepsOfAll_1 : decode cX10_stepsOfAll 1 = .ok (.aload_n 1, 1) := by decide +kernel
theorem dX10_stepsOfAll_2 : decode cX10_stepsOfAll 2 = .ok (.getfield 51, 3) := by decide +kernel
theorem dX10_stepsOfAll_5 : decode cX10_stepsOfAll 5 = .ok (.iload_n 2, 1) := by decide +kernel
theorem dX10_stepsOfAll_6 : decode cX10_stepsOfAll 6 = .ok (.iconst 0, 1) := by decide +kernel
theorem dX10_stepsOfAll_7 : decode cX10_stepsOfAll 7 = .ok (.invokevirtual 18, 3) := by decide +kernel
theorem dX10_stepsOfAll_10 : decode cX10_stepsOfAll 10 = .ok (.iconst 0, 1) := by decide +kernel
theorem dX10_stepsOfAll_11 : decode cX10_stepsOfAll 11 = .ok (.istore_n 3, 1) := by decide +kernel
theorem dX10_stepsOfAll_12 : decode cX10_stepsOfAll 12 = .ok (.iconst 0, 1) := by decide +kernel
theorem dX10_stepsOfAll_13 : decode cX10_stepsOfAll 13 = .ok (.istore 4, 2) := by decide +kernel
theorem dX10_stepsOfAll_15 : decode cX10_stepsOfAll 15 = .ok (.iload 4, 2) := by decide +kernel
theorem dX10_stepsOfAll_17 : decode cX10_stepsOfAll 17 = .ok (.aload_n 1, 1) := by decide +kernel
theorem dX10_stepsOfAll_18 : decode cX10_stepsOfAll 18 = .ok (.getfield 51, 3) := by decide +kernel
theorem dX10_stepsOfAll_21 : decode cX10_stepsOfAll 21 = .ok (.getfield 61, 3) := by decide +kernel
theorem dX10_stepsOfAll_24 : decode cX10_stepsOfAll 24 = .ok (.if_icmp .ge 33, 3) := by decide +kernel
theorem dX10_stepsOfAll_27 : decode cX10_stepsOfAll 27 = .ok (.aload_n 1, 1) := by decide +kernel
theorem dX10_stepsOfAll_28 : decode cX10_stepsOfAll 28 = .ok (.iload 4, 2) := by decide +kernel
theorem dX10_stepsOfAll_30 : decode cX10_stepsOfAll 30 = .ok (.invokevirtual 64, 3) := by decide +kernel
theorem dX10_stepsOfAll_33 : decode cX10_stepsOfAll 33 = .ok (.ifCond .ne 18, 3) := by decide +kernel
theorem dX10_stepsOfAll_36 : decode cX10_stepsOfAll 36 = .ok (.iload_n 3, 1) := by decide +kernel
theorem dX10_stepsOfAll_37 : decode cX10_stepsOfAll 37 = .ok (.aload_n 0, 1) := by decide +kernel
theorem dX10_stepsOfAll_38 : decode cX10_stepsOfAll 38 = .ok (.getfield 9, 3) := by decide +kernel
theorem dX10_stepsOfAll_41 : decode cX10_stepsOfAll 41 = .ok (.aload_n 1, 1) := by decide +kernel
theorem dX10_stepsOfAll_42 : decode cX10_stepsOfAll 42 = .ok (.getfield 68, 3) := by decide +kernel
theorem dX10_stepsOfAll_45 : decode cX10_stepsOfAll 45 = .ok (.iload 4, 2) := by decide +kernel
theorem dX10_stepsOfAll_47 : decode cX10_stepsOfAll 47 = .ok (.iaload, 1) := by decide +kernel
theorem dX10_stepsOfAll_48 : decode cX10_stepsOfAll 48 = .ok (.iaload, 1) := by decide +kernel
theorem dX10_stepsOfAll_49 : decode cX10_stepsOfAll 49 = .ok (.iadd, 1) := by decide +kernel
theorem dX10_stepsOfAll_50 : decode cX10_stepsOfAll 50 = .ok (.istore_n 3, 1) := by decide +kernel
theorem dX10_stepsOfAll_51 : decode cX10_stepsOfAll 51 = .ok (.iinc 4 1, 3) := by decide +kernel
theorem dX10_stepsOfAll_54 : decode cX10_stepsOfAll 54 = .ok (.goto (-39), 3) := by decide +kernel
theorem dX10_stepsOfAll_57 : decode cX10_stepsOfAll 57 = .ok (.iload_n 3, 1) := by decide +kernel
theorem dX10_stepsOfAll_58 : decode cX10_stepsOfAll 58 = .ok (.ireturn, 1) := by decide +kernel
theorem dX10_fewestBetween_0 : decode cX10_fewestBetween 0 = .ok (.bipush 10, 2) := by decide +kernel
theorem dX10_fewestBetween_2 : decode cX10_fewestBetween 2 = .ok (.istore 5, 2) := by decide +kernel
theorem dX10_fewestBetween_4 : decode cX10_fewestBetween 4 = .ok (.iconst 0, 1) := by decide +kernel
theorem dX10_fewestBetween_5 : decode cX10_fewestBetween 5 = .ok (.istore 6, 2) := by decide +kernel
theorem dX10_fewestBetween_7 : decode cX10_fewestBetween 7 = .ok (.iload 6, 2) := by decide +kernel
theorem dX10_fewestBetween_9 : decode cX10_fewestBetween 9 = .ok (.iconst 1, 1) := by decide +kernel
theorem dX10_fewestBetween_10 : decode cX10_fewestBetween 10 = .ok (.aload_n 1, 1) := by decide +kernel
theorem dX10_fewestBetween_11 : decode cX10_fewestBetween 11 = .ok (.getfield 22, 3) := by decide +kernel
theorem dX10_fewestBetween_14 : decode cX10_fewestBetween 14 = .ok (.ishl, 1) := by decide +kernel
theorem dX10_fewestBetween_15 : decode cX10_fewestBetween 15 = .ok (.if_icmp .ge 43, 3) := by decide +kernel
theorem dX10_fewestBetween_18 : decode cX10_fewestBetween 18 = .ok (.iload 6, 2) := by decide +kernel
theorem dX10_fewestBetween_20 : decode cX10_fewestBetween 20 = .ok (.iload_n 2, 1) := by decide +kernel
theorem dX10_fewestBetween_21 : decode cX10_fewestBetween 21 = .ok (.ishr, 1) := by decide +kernel
theorem dX10_fewestBetween_22 : decode cX10_fewestBetween 22 = .ok (.iconst 1, 1) := by decide +kernel
theorem dX10_fewestBetween_23 : decode cX10_fewestBetween 23 = .ok (.iand, 1) := by decide +kernel
theorem dX10_fewestBetween_24 : decode cX10_fewestBetween 24 = .ok (.iconst 1, 1) := by decide +kernel
theorem dX10_fewestBetween_25 : decode cX10_fewestBetween 25 = .ok (.if_icmp .ne 27, 3) := by decide +kernel
theorem dX10_fewestBetween_28 : decode cX10_fewestBetween 28 = .ok (.iload 6, 2) := by decide +kernel
theorem dX10_fewestBetween_30 : decode cX10_fewestBetween 30 = .ok (.iload_n 3, 1) := by decide +kernel
theorem dX10_fewestBetween_31 : decode cX10_fewestBetween 31 = .ok (.ishr, 1) := by decide +kernel
theorem dX10_fewestBetween_32 : decode cX10_fewestBetween 32 = .ok (.iconst 1, 1) := by decide +kernel
theorem dX10_fewestBetween_33 : decode cX10_fewestBetween 33 = .ok (.iand, 1) := by decide +kernel
theorem dX10_fewestBetween_34 : decode cX10_fewestBetween 34 = .ok (.ifCond .ne 18, 3) := by decide +kernel
theorem dX10_fewestBetween_37 : decode cX10_fewestBetween 37 = .ok (.iload 5, 2) := by decide +kernel
theorem dX10_fewestBetween_39 : decode cX10_fewestBetween 39 = .ok (.aload_n 1, 1) := by decide +kernel
theorem dX10_fewestBetween_40 : decode cX10_fewestBetween 40 = .ok (.iload 6, 2) := by decide +kernel
theorem dX10_fewestBetween_42 : decode cX10_fewestBetween 42 = .ok (.iload 4, 2) := by decide +kernel
theorem dX10_fewestBetween_44 : decode cX10_fewestBetween 44 = .ok (.invokestatic 71, 3) := by decide +kernel
theorem dX10_fewestBetween_47 : decode cX10_fewestBetween 47 = .ok (.invokestatic 75, 3) := by decide +kernel
theorem dX10_fewestBetween_50 : decode cX10_fewestBetween 50 = .ok (.istore 5, 2) := by decide +kernel
theorem dX10_fewestBetween_52 : decode cX10_fewestBetween 52 = .ok (.iinc 6 1, 3) := by decide +kernel
theorem dX10_fewestBetween_55 : decode cX10_fewestBetween 55 = .ok (.goto (-48), 3) := by decide +kernel
theorem dX10_fewestBetween_58 : decode cX10_fewestBetween 58 = .ok (.iload 5, 2) := by decide +kernel
theorem dX10_fewestBetween_60 : decode cX10_fewestBetween 60 = .ok (.ireturn, 1) := by decide +kernel
theorem dX10_shortestJoin_0 : decode cX10_shortestJoin 0 = .ok (.aload_n 1, 1) := by decide +kernel
theorem dX10_shortestJoin_1 : decode cX10_shortestJoin 1 = .ok (.getfield 22, 3) := by decide +kernel
theorem dX10_shortestJoin_4 : decode cX10_shortestJoin 4 = .ok (.ifCond .ne 6, 3) := by decide +kernel
theorem dX10_shortestJoin_7 : decode cX10_shortestJoin 7 = .ok (.bipush (-2), 2) := by decide +kernel
theorem dX10_shortestJoin_9 : decode cX10_shortestJoin 9 = .ok (.ireturn, 1) := by decide +kernel
theorem dX10_shortestJoin_10 : decode cX10_shortestJoin 10 = .ok (.iconst 1, 1) := by decide +kernel
theorem dX10_shortestJoin_11 : decode cX10_shortestJoin 11 = .ok (.istore_n 2, 1) := by decide +kernel
theorem dX10_shortestJoin_12 : decode cX10_shortestJoin 12 = .ok (.iconst 0, 1) := by decide +kernel
theorem dX10_shortestJoin_13 : decode cX10_shortestJoin 13 = .ok (.istore_n 3, 1) := by decide +kernel
theorem dX10_shortestJoin_14 : decode cX10_shortestJoin 14 = .ok (.iconst 1, 1) := by decide +kernel
theorem dX10_shortestJoin_15 : decode cX10_shortestJoin 15 = .ok (.istore 4, 2) := by decide +kernel
theorem dX10_shortestJoin_17 : decode cX10_shortestJoin 17 = .ok (.iload 4, 2) := by decide +kernel
theorem dX10_shortestJoin_19 : decode cX10_shortestJoin 19 = .ok (.aload_n 1, 1) := by decide +kernel
theorem dX10_shortestJoin_20 : decode cX10_shortestJoin 20 = .ok (.getfield 22, 3) := by decide +kernel
theorem dX10_shortestJoin_23 : decode cX10_shortestJoin 23 = .ok (.if_icmp .ge 57, 3) := by decide +kernel
theorem dX10_shortestJoin_26 : decode cX10_shortestJoin 26 = .ok (.aload_n 1, 1) := by decide +kernel
theorem dX10_shortestJoin_27 : decode cX10_shortestJoin 27 = .ok (.iload_n 2, 1) := by decide +kernel
theorem dX10_shortestJoin_28 : decode cX10_shortestJoin 28 = .ok (.invokestatic 81, 3) := by decide +kernel
theorem dX10_shortestJoin_31 : decode cX10_shortestJoin 31 = .ok (.istore 5, 2) := by decide +kernel
theorem dX10_shortestJoin_33 : decode cX10_shortestJoin 33 = .ok (.iload 5, 2) := by decide +kernel
theorem dX10_shortestJoin_35 : decode cX10_shortestJoin 35 = .ok (.iconst (-1), 1) := by decide +kernel
theorem dX10_shortestJoin_36 : decode cX10_shortestJoin 36 = .ok (.if_icmp .ne 6, 3) := by decide +kernel
theorem dX10_shortestJoin_39 : decode cX10_shortestJoin 39 = .ok (.bipush (-2), 2) := by decide +kernel
theorem dX10_shortestJoin_41 : decode cX10_shortestJoin 41 = .ok (.ireturn, 1) := by decide +kernel
theorem dX10_shortestJoin_42 : decode cX10_shortestJoin 42 = .ok (.iload_n 2, 1) := by decide +kernel
theorem dX10_shortestJoin_43 : decode cX10_shortestJoin 43 = .ok (.iconst 1, 1) := by decide +kernel
theorem dX10_shortestJoin_44 : decode cX10_shortestJoin 44 = .ok (.aload_n 1, 1) := by decide +kernel
theorem dX10_shortestJoin_45 : decode cX10_shortestJoin 45 = .ok (.getfield 31, 3) := by decide +kernel
theorem dX10_shortestJoin_48 : decode cX10_shortestJoin 48 = .ok (.iload 5, 2) := by decide +kernel
theorem dX10_shortestJoin_50 : decode cX10_shortestJoin 50 = .ok (.iaload, 1) := by decide +kernel
theorem dX10_shortestJoin_51 : decode cX10_shortestJoin 51 = .ok (.ishl, 1) := by decide +kernel
theorem dX10_shortestJoin_52 : decode cX10_shortestJoin 52 = .ok (.iconst 1, 1) := by decide +kernel
theorem dX10_shortestJoin_53 : decode cX10_shortestJoin 53 = .ok (.aload_n 1, 1) := by decide +kernel
theorem dX10_shortestJoin_54 : decode cX10_shortestJoin 54 = .ok (.getfield 34, 3) := by decide +kernel
theorem dX10_shortestJoin_57 : decode cX10_shortestJoin 57 = .ok (.iload 5, 2) := by decide +kernel
theorem dX10_shortestJoin_59 : decode cX10_shortestJoin 59 = .ok (.iaload, 1) := by decide +kernel
theorem dX10_shortestJoin_60 : decode cX10_shortestJoin 60 = .ok (.ishl, 1) := by decide +kernel
theorem dX10_shortestJoin_61 : decode cX10_shortestJoin 61 = .ok (.ior, 1) := by decide +kernel
theorem dX10_shortestJoin_62 : decode cX10_shortestJoin 62 = .ok (.ior, 1) := by decide +kernel
theorem dX10_shortestJoin_63 : decode cX10_shortestJoin 63 = .ok (.istore_n 2, 1) := by decide +kernel
theorem dX10_shortestJoin_64 : decode cX10_shortestJoin 64 = .ok (.iload_n 3, 1) := by decide +kernel
theorem dX10_shortestJoin_65 : decode cX10_shortestJoin 65 = .ok (.aload_n 1, 1) := by decide +kernel
theorem dX10_shortestJoin_66 : decode cX10_shortestJoin 66 = .ok (.getfield 85, 3) := by decide +kernel
theorem dX10_shortestJoin_69 : decode cX10_shortestJoin 69 = .ok (.iload 5, 2) := by decide +kernel
theorem dX10_shortestJoin_71 : decode cX10_shortestJoin 71 = .ok (.iaload, 1) := by decide +kernel
theorem dX10_shortestJoin_72 : decode cX10_shortestJoin 72 = .ok (.iadd, 1) := by decide +kernel
theorem dX10_shortestJoin_73 : decode cX10_shortestJoin 73 = .ok (.istore_n 3, 1) := by decide +kernel
theorem dX10_shortestJoin_74 : decode cX10_shortestJoin 74 = .ok (.iinc 4 1, 3) := by decide +kernel
theorem dX10_shortestJoin_77 : decode cX10_shortestJoin 77 = .ok (.goto (-60), 3) := by decide +kernel
theorem dX10_shortestJoin_80 : decode cX10_shortestJoin 80 = .ok (.iload_n 3, 1) := by decide +kernel
theorem dX10_shortestJoin_81 : decode cX10_shortestJoin 81 = .ok (.ireturn, 1) := by decide +kernel
theorem dX10_measure_0 : decode cX10_measure 0 = .ok (.aload_n 0, 1) := by decide +kernel
theorem dX10_measure_1 : decode cX10_measure 1 = .ok (.getfield 9, 3) := by decide +kernel
theorem dX10_measure_4 : decode cX10_measure 4 = .ok (.sipush 1000, 3) := by decide +kernel
theorem dX10_measure_7 : decode cX10_measure 7 = .ok (.invokestatic 88, 3) := by decide +kernel
theorem dX10_measure_10 : decode cX10_measure 10 = .ok (.aload_n 0, 1) := by decide +kernel
theorem dX10_measure_11 : decode cX10_measure 11 = .ok (.getfield 9, 3) := by decide +kernel
theorem dX10_measure_14 : decode cX10_measure 14 = .ok (.iload_n 2, 1) := by decide +kernel
theorem dX10_measure_15 : decode cX10_measure 15 = .ok (.iconst 0, 1) := by decide +kernel
theorem dX10_measure_16 : decode cX10_measure 16 = .ok (.iastore, 1) := by decide +kernel
theorem dX10_measure_17 : decode cX10_measure 17 = .ok (.iconst 1, 1) := by decide +kernel
theorem dX10_measure_18 : decode cX10_measure 18 = .ok (.istore 4, 2) := by decide +kernel
theorem dX10_measure_20 : decode cX10_measure 20 = .ok (.iload 4, 2) := by decide +kernel
theorem dX10_measure_22 : decode cX10_measure 22 = .ok (.aload_n 1, 1) := by decide +kernel
theorem dX10_measure_23 : decode cX10_measure 23 = .ok (.getfield 22, 3) := by decide +kernel
theorem dX10_measure_26 : decode cX10_measure 26 = .ok (.if_icmp .ge 109, 3) := by decide +kernel
theorem dX10_measure_29 : decode cX10_measure 29 = .ok (.iconst 0, 1) := by decide +kernel
theorem dX10_measure_30 : decode cX10_measure 30 = .ok (.istore 5, 2) := by decide +kernel
theorem dX10_measure_32 : decode cX10_measure 32 = .ok (.iload 5, 2) := by decide +kernel
theorem dX10_measure_34 : decode cX10_measure 34 = .ok (.aload_n 1, 1) := by decide +kernel
theorem dX10_measure_35 : decode cX10_measure 35 = .ok (.getfield 28, 3) := by decide +kernel
theorem dX10_measure_38 : decode cX10_measure 38 = .ok (.if_icmp .ge 91, 3) := by decide +kernel
theorem dX10_measure_41 : decode cX10_measure 41 = .ok (.iconst 1, 1) := by decide +kernel
theorem dX10_measure_42 : decode cX10_measure 42 = .ok (.iload_n 3, 1) := by decide +kernel
theorem dX10_measure_43 : decode cX10_measure 43 = .ok (.iload 5, 2) := by decide +kernel
theorem dX10_measure_45 : decode cX10_measure 45 = .ok (.ishr, 1) := by decide +kernel
theorem dX10_measure_46 : decode cX10_measure 46 = .ok (.iconst 1, 1) := by decide +kernel
theorem dX10_measure_47 : decode cX10_measure 47 = .ok (.iand, 1) := by decide +kernel
theorem dX10_measure_48 : decode cX10_measure 48 = .ok (.isub, 1) := by decide +kernel
theorem dX10_measure_49 : decode cX10_measure 49 = .ok (.istore 6, 2) := by decide +kernel
theorem dX10_measure_51 : decode cX10_measure 51 = .ok (.aload_n 1, 1) := by decide +kernel
theorem dX10_measure_52 : decode cX10_measure 52 = .ok (.getfield 31, 3) := by decide +kernel
theorem dX10_measure_55 : decode cX10_measure 55 = .ok (.iload 5, 2) := by decide +kernel
theorem dX10_measure_57 : decode cX10_measure 57 = .ok (.iaload, 1) := by decide +kernel
theorem dX10_measure_58 : decode cX10_measure 58 = .ok (.istore 7, 2) := by decide +kernel
theorem dX10_measure_60 : decode cX10_measure 60 = .ok (.aload_n 1, 1) := by decide +kernel
theorem dX10_measure_61 : decode cX10_measure 61 = .ok (.getfield 34, 3) := by decide +kernel
theorem dX10_measure_64 : decode cX10_measure 64 = .ok (.iload 5, 2) := by decide +kernel
theorem dX10_measure_66 : decode cX10_measure 66 = .ok (.iaload, 1) := by decide +kernel
theorem dX10_measure_67 : decode cX10_measure 67 = .ok (.istore 8, 2) := by decide +kernel
theorem dX10_measure_69 : decode cX10_measure 69 = .ok (.aload_n 0, 1) := by decide +kernel
theorem dX10_measure_70 : decode cX10_measure 70 = .ok (.getfield 9, 3) := by decide +kernel
theorem dX10_measure_73 : decode cX10_measure 73 = .ok (.iload 7, 2) := by decide +kernel
theorem dX10_measure_75 : decode cX10_measure 75 = .ok (.aload_n 0, 1) := by decide +kernel
theorem dX10_measure_76 : decode cX10_measure 76 = .ok (.getfield 9, 3) := by decide +kernel
theorem dX10_measure_79 : decode cX10_measure 79 = .ok (.iload 7, 2) := by decide +kernel
theorem dX10_measure_81 : decode cX10_measure 81 = .ok (.iaload, 1) := by decide +kernel
theorem dX10_measure_82 : decode cX10_measure 82 = .ok (.aload_n 0, 1) := by decide +kernel
theorem dX10_measure_83 : decode cX10_measure 83 = .ok (.getfield 9, 3) := by decide +kernel
theorem dX10_measure_86 : decode cX10_measure 86 = .ok (.iload 8, 2) := by decide +kernel
theorem dX10_measure_88 : decode cX10_measure 88 = .ok (.iaload, 1) := by decide +kernel
theorem dX10_measure_89 : decode cX10_measure 89 = .ok (.iload 6, 2) := by decide +kernel
theorem dX10_measure_91 : decode cX10_measure 91 = .ok (.iadd, 1) := by decide +kernel
theorem dX10_measure_92 : decode cX10_measure 92 = .ok (.invokestatic 75, 3) := by decide +kernel
theorem dX10_measure_95 : decode cX10_measure 95 = .ok (.iastore, 1) := by decide +kernel
theorem dX10_measure_96 : decode cX10_measure 96 = .ok (.aload_n 0, 1) := by decide +kernel
theorem dX10_measure_97 : decode cX10_measure 97 = .ok (.getfield 9, 3) := by decide +kernel
theorem dX10_measure_100 : decode cX10_measure 100 = .ok (.iload 8, 2) := by decide +kernel
theorem dX10_measure_102 : decode cX10_measure 102 = .ok (.aload_n 0, 1) := by decide +kernel
theorem dX10_measure_103 : decode cX10_measure 103 = .ok (.getfield 9, 3) := by decide +kernel
theorem dX10_measure_106 : decode cX10_measure 106 = .ok (.iload 8, 2) := by decide +kernel
theorem dX10_measure_108 : decode cX10_measure 108 = .ok (.iaload, 1) := by decide +kernel
theorem dX10_measure_109 : decode cX10_measure 109 = .ok (.aload_n 0, 1) := by decide +kernel
theorem dX10_measure_110 : decode cX10_measure 110 = .ok (.getfield 9, 3) := by decide +kernel
theorem dX10_measure_113 : decode cX10_measure 113 = .ok (.iload 7, 2) := by decide +kernel
theorem dX10_measure_115 : decode cX10_measure 115 = .ok (.iaload, 1) := by decide +kernel
theorem dX10_measure_116 : decode cX10_measure 116 = .ok (.iload 6, 2) := by decide +kernel
theorem dX10_measure_118 : decode cX10_measure 118 = .ok (.iadd, 1) := by decide +kernel
theorem dX10_measure_119 : decode cX10_measure 119 = .ok (.invokestatic 75, 3) := by decide +kernel
theorem dX10_measure_122 : decode cX10_measure 122 = .ok (.iastore, 1) := by decide +kernel
theorem dX10_measure_123 : decode cX10_measure 123 = .ok (.iinc 5 1, 3) := by decide +kernel
theorem dX10_measure_126 : decode cX10_measure 126 = .ok (.goto (-94), 3) := by decide +kernel
theorem dX10_measure_129 : decode cX10_measure 129 = .ok (.iinc 4 1, 3) := by decide +kernel
theorem dX10_measure_132 : decode cX10_measure 132 = .ok (.goto (-112), 3) := by decide +kernel
theorem dX10_measure_135 : decode cX10_measure 135 = .ok (.return_, 1) := by decide +kernel
theorem dX10_roundFrom_0 : decode cX10_roundFrom 0 = .ok (.iload_n 2, 1) := by decide +kernel
theorem dX10_roundFrom_1 : decode cX10_roundFrom 1 = .ok (.iconst 1, 1) := by decide +kernel
theorem dX10_roundFrom_2 : decode cX10_roundFrom 2 = .ok (.iload_n 1, 1) := by decide +kernel
theorem dX10_roundFrom_3 : decode cX10_roundFrom 3 = .ok (.ishl, 1) := by decide +kernel
theorem dX10_roundFrom_4 : decode cX10_roundFrom 4 = .ok (.iconst (-1), 1) := by decide +kernel
theorem dX10_roundFrom_5 : decode cX10_roundFrom 5 = .ok (.ixor, 1) := by decide +kernel
theorem dX10_roundFrom_6 : decode cX10_roundFrom 6 = .ok (.iand, 1) := by decide +kernel
theorem dX10_roundFrom_7 : decode cX10_roundFrom 7 = .ok (.istore 4, 2) := by decide +kernel
theorem dX10_roundFrom_9 : decode cX10_roundFrom 9 = .ok (.iload 4, 2) := by decide +kernel
theorem dX10_roundFrom_11 : decode cX10_roundFrom 11 = .ok (.ifCond .eq 9, 3) := by decide +kernel
theorem dX10_roundFrom_14 : decode cX10_roundFrom 14 = .ok (.iload_n 3, 1) := by decide +kernel
theorem dX10_roundFrom_15 : decode cX10_roundFrom 15 = .ok (.bipush 7, 2) := by decide +kernel
theorem dX10_roundFrom_17 : decode cX10_roundFrom 17 = .ok (.if_icmp .le 5, 3) := by decide +kernel
theorem dX10_roundFrom_20 : decode cX10_roundFrom 20 = .ok (.iconst 0, 1) := by decide +kernel
theorem dX10_roundFrom_21 : decode cX10_roundFrom 21 = .ok (.ireturn, 1) := by decide +kernel
theorem dX10_roundFrom_22 : decode cX10_roundFrom 22 = .ok (.sipush 1000, 3) := by decide +kernel
theorem dX10_roundFrom_25 : decode cX10_roundFrom 25 = .ok (.istore 5, 2) := by decide +kernel
theorem dX10_roundFrom_27 : decode cX10_roundFrom 27 = .ok (.iconst 0, 1) := by decide +kernel
theorem dX10_roundFrom_28 : decode cX10_roundFrom 28 = .ok (.istore 6, 2) := by decide +kernel
theorem dX10_roundFrom_30 : decode cX10_roundFrom 30 = .ok (.iload 6, 2) := by decide +kernel
theorem dX10_roundFrom_32 : decode cX10_roundFrom 32 = .ok (.bipush 7, 2) := by decide +kernel
theorem dX10_roundFrom_34 : decode cX10_roundFrom 34 = .ok (.if_icmp .ge 67, 3) := by decide +kernel
theorem dX10_roundFrom_37 : decode cX10_roundFrom 37 = .ok (.iload 4, 2) := by decide +kernel
theorem dX10_roundFrom_39 : decode cX10_roundFrom 39 = .ok (.iload 6, 2) := by decide +kernel
theorem dX10_roundFrom_41 : decode cX10_roundFrom 41 = .ok (.ishr, 1) := by decide +kernel
theorem dX10_roundFrom_42 : decode cX10_roundFrom 42 = .ok (.iconst 1, 1) := by decide +kernel
theorem dX10_roundFrom_43 : decode cX10_roundFrom 43 = .ok (.iand, 1) := by decide +kernel
theorem dX10_roundFrom_44 : decode cX10_roundFrom 44 = .ok (.iconst 1, 1) := by decide +kernel
theorem dX10_roundFrom_45 : decode cX10_roundFrom 45 = .ok (.if_icmp .ne 50, 3) := by decide +kernel
theorem dX10_roundFrom_48 : decode cX10_roundFrom 48 = .ok (.aload_n 0, 1) := by decide +kernel
theorem dX10_roundFrom_49 : decode cX10_roundFrom 49 = .ok (.getfield 15, 3) := by decide +kernel
theorem dX10_roundFrom_52 : decode cX10_roundFrom 52 = .ok (.iload_n 1, 1) := by decide +kernel
theorem dX10_roundFrom_53 : decode cX10_roundFrom 53 = .ok (.bipush 7, 2) := by decide +kernel
theorem dX10_roundFrom_55 : decode cX10_roundFrom 55 = .ok (.imul, 1) := by decide +kernel
theorem dX10_roundFrom_56 : decode cX10_roundFrom 56 = .ok (.iload 6, 2) := by decide +kernel
theorem dX10_roundFrom_58 : decode cX10_roundFrom 58 = .ok (.iadd, 1) := by decide +kernel
theorem dX10_roundFrom_59 : decode cX10_roundFrom 59 = .ok (.iaload, 1) := by decide +kernel
theorem dX10_roundFrom_60 : decode cX10_roundFrom 60 = .ok (.istore 7, 2) := by decide +kernel
theorem dX10_roundFrom_62 : decode cX10_roundFrom 62 = .ok (.iload 7, 2) := by decide +kernel
theorem dX10_roundFrom_64 : decode cX10_roundFrom 64 = .ok (.iload 5, 2) := by decide +kernel
theorem dX10_roundFrom_66 : decode cX10_roundFrom 66 = .ok (.if_icmp .lt 8, 3) := by decide +kernel
theorem dX10_roundFrom_69 : decode cX10_roundFrom 69 = .ok (.iload 5, 2) := by decide +kernel
theorem dX10_roundFrom_71 : decode cX10_roundFrom 71 = .ok (.goto 22, 3) := by decide +kernel
theorem dX10_roundFrom_74 : decode cX10_roundFrom 74 = .ok (.iload 5, 2) := by decide +kernel
theorem dX10_roundFrom_76 : decode cX10_roundFrom 76 = .ok (.iload 7, 2) := by decide +kernel
theorem dX10_roundFrom_78 : decode cX10_roundFrom 78 = .ok (.aload_n 0, 1) := by decide +kernel
theorem dX10_roundFrom_79 : decode cX10_roundFrom 79 = .ok (.iload 6, 2) := by decide +kernel
theorem dX10_roundFrom_81 : decode cX10_roundFrom 81 = .ok (.iload 4, 2) := by decide +kernel
theorem dX10_roundFrom_83 : decode cX10_roundFrom 83 = .ok (.iload_n 3, 1) := by decide +kernel
theorem dX10_roundFrom_84 : decode cX10_roundFrom 84 = .ok (.iconst 1, 1) := by decide +kernel
theorem dX10_roundFrom_85 : decode cX10_roundFrom 85 = .ok (.iadd, 1) := by decide +kernel
theorem dX10_roundFrom_86 : decode cX10_roundFrom 86 = .ok (.invokevirtual 47, 3) := by decide +kernel
theorem dX10_roundFrom_89 : decode cX10_roundFrom 89 = .ok (.iadd, 1) := by decide +kernel
theorem dX10_roundFrom_90 : decode cX10_roundFrom 90 = .ok (.invokestatic 75, 3) := by decide +kernel
theorem dX10_roundFrom_93 : decode cX10_roundFrom 93 = .ok (.istore 5, 2) := by decide +kernel
theorem dX10_roundFrom_95 : decode cX10_roundFrom 95 = .ok (.iinc 6 1, 3) := by decide +kernel
theorem dX10_roundFrom_98 : decode cX10_roundFrom 98 = .ok (.goto (-68), 3) := by decide +kernel
theorem dX10_roundFrom_101 : decode cX10_roundFrom 101 = .ok (.iload 5, 2) := by decide +kernel
theorem dX10_roundFrom_103 : decode cX10_roundFrom 103 = .ok (.ireturn, 1) := by decide +kernel
theorem dX10_crossing_0 : decode cX10_crossing 0 = .ok (.iconst 0, 1) := by decide +kernel
theorem dX10_crossing_1 : decode cX10_crossing 1 = .ok (.istore_n 3, 1) := by decide +kernel
theorem dX10_crossing_2 : decode cX10_crossing 2 = .ok (.iconst 0, 1) := by decide +kernel
theorem dX10_crossing_3 : decode cX10_crossing 3 = .ok (.istore 4, 2) := by decide +kernel
theorem dX10_crossing_5 : decode cX10_crossing 5 = .ok (.iload 4, 2) := by decide +kernel
theorem dX10_crossing_7 : decode cX10_crossing 7 = .ok (.aload_n 0, 1) := by decide +kernel
theorem dX10_crossing_8 : decode cX10_crossing 8 = .ok (.getfield 28, 3) := by decide +kernel
theorem dX10_crossing_11 : decode cX10_crossing 11 = .ok (.if_icmp .ge 32, 3) := by decide +kernel
theorem dX10_crossing_14 : decode cX10_crossing 14 = .ok (.iload_n 2, 1) := by decide +kernel
theorem dX10_crossing_15 : decode cX10_crossing 15 = .ok (.iload 4, 2) := by decide +kernel
theorem dX10_crossing_17 : decode cX10_crossing 17 = .ok (.ishr, 1) := by decide +kernel
theorem dX10_crossing_18 : decode cX10_crossing 18 = .ok (.iconst 1, 1) := by decide +kernel
theorem dX10_crossing_19 : decode cX10_crossing 19 = .ok (.iand, 1) := by decide +kernel
theorem dX10_crossing_20 : decode cX10_crossing 20 = .ok (.iconst 1, 1) := by decide +kernel
theorem dX10_crossing_21 : decode cX10_crossing 21 = .ok (.if_icmp .ne 16, 3) := by decide +kernel
theorem dX10_crossing_24 : decode cX10_crossing 24 = .ok (.aload_n 0, 1) := by decide +kernel
theorem dX10_crossing_25 : decode cX10_crossing 25 = .ok (.iload_n 1, 1) := by decide +kernel
theorem dX10_crossing_26 : decode cX10_crossing 26 = .ok (.iload 4, 2) := by decide +kernel
theorem dX10_crossing_28 : decode cX10_crossing 28 = .ok (.invokestatic 94, 3) := by decide +kernel
theorem dX10_crossing_31 : decode cX10_crossing 31 = .ok (.ifCond .eq 6, 3) := by decide +kernel
theorem dX10_crossing_34 : decode cX10_crossing 34 = .ok (.iinc 3 1, 3) := by decide +kernel
theorem dX10_crossing_37 : decode cX10_crossing 37 = .ok (.iinc 4 1, 3) := by decide +kernel
theorem dX10_crossing_40 : decode cX10_crossing 40 = .ok (.goto (-35), 3) := by decide +kernel
theorem dX10_crossing_43 : decode cX10_crossing 43 = .ok (.iload_n 3, 1) := by decide +kernel
theorem dX10_crossing_44 : decode cX10_crossing 44 = .ok (.ireturn, 1) := by decide +kernel
theorem dX10_shortestOutOf_0 : decode cX10_shortestOutOf 0 = .ok (.iconst (-1), 1) := by decide +kernel
theorem dX10_shortestOutOf_1 : decode cX10_shortestOutOf 1 = .ok (.istore_n 2, 1) := by decide +kernel
theorem dX10_shortestOutOf_2 : decode cX10_shortestOutOf 2 = .ok (.iconst 0, 1) := by decide +kernel
theorem dX10_shortestOutOf_3 : decode cX10_shortestOutOf 3 = .ok (.istore_n 3, 1) := by decide +kernel
theorem dX10_shortestOutOf_4 : decode cX10_shortestOutOf 4 = .ok (.iload_n 3, 1) := by decide +kernel
theorem dX10_shortestOutOf_5 : decode cX10_shortestOutOf 5 = .ok (.aload_n 0, 1) := by decide +kernel
theorem dX10_shortestOutOf_6 : decode cX10_shortestOutOf 6 = .ok (.getfield 28, 3) := by decide +kernel
theorem dX10_shortestOutOf_9 : decode cX10_shortestOutOf 9 = .ok (.if_icmp .ge 40, 3) := by decide +kernel
theorem dX10_shortestOutOf_12 : decode cX10_shortestOutOf 12 = .ok (.aload_n 0, 1) := by decide +kernel
theorem dX10_shortestOutOf_13 : decode cX10_shortestOutOf 13 = .ok (.iload_n 1, 1) := by decide +kernel
theorem dX10_shortestOutOf_14 : decode cX10_shortestOutOf 14 = .ok (.iload_n 3, 1) := by decide +kernel
theorem dX10_shortestOutOf_15 : decode cX10_shortestOutOf 15 = .ok (.invokestatic 94, 3) := by decide +kernel
theorem dX10_shortestOutOf_18 : decode cX10_shortestOutOf 18 = .ok (.ifCond .eq 25, 3) := by decide +kernel
theorem dX10_shortestOutOf_21 : decode cX10_shortestOutOf 21 = .ok (.iload_n 2, 1) := by decide +kernel
theorem dX10_shortestOutOf_22 : decode cX10_shortestOutOf 22 = .ok (.iconst (-1), 1) := by decide +kernel
theorem dX10_shortestOutOf_23 : decode cX10_shortestOutOf 23 = .ok (.if_icmp .eq 18, 3) := by decide +kernel
theorem dX10_shortestOutOf_26 : decode cX10_shortestOutOf 26 = .ok (.aload_n 0, 1) := by decide +kernel
theorem dX10_shortestOutOf_27 : decode cX10_shortestOutOf 27 = .ok (.getfield 85, 3) := by decide +kernel
theorem dX10_shortestOutOf_30 : decode cX10_shortestOutOf 30 = .ok (.iload_n 3, 1) := by decide +kernel
theorem dX10_shortestOutOf_31 : decode cX10_shortestOutOf 31 = .ok (.iaload, 1) := by decide +kernel
theorem dX10_shortestOutOf_32 : decode cX10_shortestOutOf 32 = .ok (.aload_n 0, 1) := by decide +kernel
theorem dX10_shortestOutOf_33 : decode cX10_shortestOutOf 33 = .ok (.getfield 85, 3) := by decide +kernel
theorem dX10_shortestOutOf_36 : decode cX10_shortestOutOf 36 = .ok (.iload_n 2, 1) := by decide +kernel
theorem dX10_shortestOutOf_37 : decode cX10_shortestOutOf 37 = .ok (.iaload, 1) := by decide +kernel
theorem dX10_shortestOutOf_38 : decode cX10_shortestOutOf 38 = .ok (.if_icmp .ge 5, 3) := by decide +kernel
theorem dX10_shortestOutOf_41 : decode cX10_shortestOutOf 41 = .ok (.iload_n 3, 1) := by decide +kernel
theorem dX10_shortestOutOf_42 : decode cX10_shortestOutOf 42 = .ok (.istore_n 2, 1) := by decide +kernel
theorem dX10_shortestOutOf_43 : decode cX10_shortestOutOf 43 = .ok (.iinc 3 1, 3) := by decide +kernel
theorem dX10_shortestOutOf_46 : decode cX10_shortestOutOf 46 = .ok (.goto (-42), 3) := by decide +kernel
theorem dX10_shortestOutOf_49 : decode cX10_shortestOutOf 49 = .ok (.iload_n 2, 1) := by decide +kernel
theorem dX10_shortestOutOf_50 : decode cX10_shortestOutOf 50 = .ok (.ireturn, 1) := by decide +kernel
theorem dX10_isCrossing_0 : decode cX10_isCrossing 0 = .ok (.iload_n 1, 1) := by decide +kernel
theorem dX10_isCrossing_1 : decode cX10_isCrossing 1 = .ok (.aload_n 0, 1) := by decide +kernel
theorem dX10_isCrossing_2 : decode cX10_isCrossing 2 = .ok (.getfield 31, 3) := by decide +kernel
theorem dX10_isCrossing_5 : decode cX10_isCrossing 5 = .ok (.iload_n 2, 1) := by decide +kernel
theorem dX10_isCrossing_6 : decode cX10_isCrossing 6 = .ok (.iaload, 1) := by decide +kernel
theorem dX10_isCrossing_7 : decode cX10_isCrossing 7 = .ok (.ishr, 1) := by decide +kernel
theorem dX10_isCrossing_8 : decode cX10_isCrossing 8 = .ok (.iconst 1, 1) := by decide +kernel
theorem dX10_isCrossing_9 : decode cX10_isCrossing 9 = .ok (.iand, 1) := by decide +kernel
theorem dX10_isCrossing_10 : decode cX10_isCrossing 10 = .ok (.iload_n 1, 1) := by decide +kernel
theorem dX10_isCrossing_11 : decode cX10_isCrossing 11 = .ok (.aload_n 0, 1) := by decide +kernel
theorem dX10_isCrossing_12 : decode cX10_isCrossing 12 = .ok (.getfield 34, 3) := by decide +kernel
theorem dX10_isCrossing_15 : decode cX10_isCrossing 15 = .ok (.iload_n 2, 1) := by decide +kernel
theorem dX10_isCrossing_16 : decode cX10_isCrossing 16 = .ok (.iaload, 1) := by decide +kernel
theorem dX10_isCrossing_17 : decode cX10_isCrossing 17 = .ok (.ishr, 1) := by decide +kernel
theorem dX10_isCrossing_18 : decode cX10_isCrossing 18 = .ok (.iconst 1, 1) := by decide +kernel
theorem dX10_isCrossing_19 : decode cX10_isCrossing 19 = .ok (.iand, 1) := by decide +kernel
theorem dX10_isCrossing_20 : decode cX10_isCrossing 20 = .ok (.if_icmp .eq 7, 3) := by decide +kernel
theorem dX10_isCrossing_23 : decode cX10_isCrossing 23 = .ok (.iconst 1, 1) := by decide +kernel
theorem dX10_isCrossing_24 : decode cX10_isCrossing 24 = .ok (.goto 4, 3) := by decide +kernel
theorem dX10_isCrossing_27 : decode cX10_isCrossing 27 = .ok (.iconst 0, 1) := by decide +kernel
theorem dX10_isCrossing_28 : decode cX10_isCrossing 28 = .ok (.ireturn, 1) := by decide +kernel
theorem dX11_init_0 : decode cX11_init 0 = .ok (.aload_n 0, 1) := by decide +kernel
theorem dX11_init_1 : decode cX11_init 1 = .ok (.invokespecial 1, 3) := by decide +kernel
theorem dX11_init_4 : decode cX11_init 4 = .ok (.new 7, 3) := by decide +kernel
theorem dX11_init_7 : decode cX11_init 7 = .ok (.dup, 1) := by decide +kernel
theorem dX11_init_8 : decode cX11_init 8 = .ok (.invokespecial 9, 3) := by decide +kernel
theorem dX11_init_11 : decode cX11_init 11 = .ok (.astore_n 1, 1) := by decide +kernel
theorem dX11_init_12 : decode cX11_init 12 = .ok (.new 7, 3) := by decide +kernel
theorem dX11_init_15 : decode cX11_init 15 = .ok (.dup, 1) := by decide +kernel
theorem dX11_init_16 : decode cX11_init 16 = .ok (.invokespecial 9, 3) := by decide +kernel
theorem dX11_init_19 : decode cX11_init 19 = .ok (.astore_n 2, 1) := by decide +kernel
theorem dX11_init_20 : decode cX11_init 20 = .ok (.aload_n 0, 1) := by decide +kernel
theorem dX11_init_21 : decode cX11_init 21 = .ok (.new 10, 3) := by decide +kernel
theorem dX11_init_24 : decode cX11_init 24 = .ok (.dup, 1) := by decide +kernel
theorem dX11_init_25 : decode cX11_init 25 = .ok (.invokespecial 12, 3) := by decide +kernel
theorem dX11_init_28 : decode cX11_init 28 = .ok (.putfield 13, 3) := by decide +kernel
theorem dX11_init_31 : decode cX11_init 31 = .ok (.aload_n 0, 1) := by decide +kernel
theorem dX11_init_32 : decode cX11_init 32 = .ok (.new 19, 3) := by decide +kernel
theorem dX11_init_35 : decode cX11_init 35 = .ok (.dup, 1) := by decide +kernel
theorem dX11_init_36 : decode cX11_init 36 = .ok (.aload_n 2, 1) := by decide +kernel
theorem dX11_init_37 : decode cX11_init 37 = .ok (.invokespecial 21, 3) := by decide +kernel
theorem dX11_init_40 : decode cX11_init 40 = .ok (.putfield 24, 3) := by decide +kernel
theorem dX11_init_43 : decode cX11_init 43 = .ok (.aload_n 0, 1) := by decide +kernel
theorem dX11_init_44 : decode cX11_init 44 = .ok (.new 28, 3) := by decide +kernel
theorem dX11_init_47 : decode cX11_init 47 = .ok (.dup, 1) := by decide +kernel
theorem dX11_init_48 : decode cX11_init 48 = .ok (.invokespecial 30, 3) := by decide +kernel
theorem dX11_init_51 : decode cX11_init 51 = .ok (.putfield 31, 3) := by decide +kernel
theorem dX11_init_54 : decode cX11_init 54 = .ok (.aload_n 0, 1) := by decide +kernel
theorem dX11_init_55 : decode cX11_init 55 = .ok (.new 35, 3) := by decide +kernel
theorem dX11_init_58 : decode cX11_init 58 = .ok (.dup, 1) := by decide +kernel
theorem dX11_init_59 : decode cX11_init 59 = .ok (.aload_n 1, 1) := by decide +kernel
theorem dX11_init_60 : decode cX11_init 60 = .ok (.invokespecial 37, 3) := by decide +kernel
theorem dX11_init_63 : decode cX11_init 63 = .ok (.putfield 38, 3) := by decide +kernel
theorem dX11_init_66 : decode cX11_init 66 = .ok (.aload_n 0, 1) := by decide +kernel
theorem dX11_init_67 : decode cX11_init 67 = .ok (.new 42, 3) := by decide +kernel
theorem dX11_init_70 : decode cX11_init 70 = .ok (.dup, 1) := by decide +kernel
theorem dX11_init_71 : decode cX11_init 71 = .ok (.invokespecial 44, 3) := by decide +kernel
theorem dX11_init_74 : decode cX11_init 74 = .ok (.putfield 45, 3) := by decide +kernel
theorem dX11_init_77 : decode cX11_init 77 = .ok (.aload_n 0, 1) := by decide +kernel
theorem dX11_init_78 : decode cX11_init 78 = .ok (.new 49, 3) := by decide +kernel
theorem dX11_init_81 : decode cX11_init 81 = .ok (.dup, 1) := by decide +kernel
theorem dX11_init_82 : decode cX11_init 82 = .ok (.invokespecial 51, 3) := by decide +kernel
theorem dX11_init_85 : decode cX11_init 85 = .ok (.putfield 52, 3) := by decide +kernel
theorem dX11_init_88 : decode cX11_init 88 = .ok (.aload_n 0, 1) := by decide +kernel
theorem dX11_init_89 : decode cX11_init 89 = .ok (.new 56, 3) := by decide +kernel
theorem dX11_init_92 : decode cX11_init 92 = .ok (.dup, 1) := by decide +kernel
theorem dX11_init_93 : decode cX11_init 93 = .ok (.invokespecial 58, 3) := by decide +kernel
theorem dX11_init_96 : decode cX11_init 96 = .ok (.putfield 59, 3) := by decide +kernel
theorem dX11_init_99 : decode cX11_init 99 = .ok (.aload_n 0, 1) := by decide +kernel
theorem dX11_init_100 : decode cX11_init 100 = .ok (.new 63, 3) := by decide +kernel
theorem dX11_init_103 : decode cX11_init 103 = .ok (.dup, 1) := by decide +kernel
theorem dX11_init_104 : decode cX11_init 104 = .ok (.invokespecial 65, 3) := by decide +kernel
theorem dX11_init_107 : decode cX11_init 107 = .ok (.putfield 66, 3) := by decide +kernel
theorem dX11_init_110 : decode cX11_init 110 = .ok (.aload_n 0, 1) := by decide +kernel
theorem dX11_init_111 : decode cX11_init 111 = .ok (.new 70, 3) := by decide +kernel
theorem dX11_init_114 : decode cX11_init 114 = .ok (.dup, 1) := by decide +kernel
theorem dX11_init_115 : decode cX11_init 115 = .ok (.aload_n 1, 1) := by decide +kernel
theorem dX11_init_116 : decode cX11_init 116 = .ok (.invokespecial 72, 3) := by decide +kernel
theorem dX11_init_119 : decode cX11_init 119 = .ok (.putfield 73, 3) := by decide +kernel
theorem dX11_init_122 : decode cX11_init 122 = .ok (.aload_n 0, 1) := by decide +kernel
theorem dX11_init_123 : decode cX11_init 123 = .ok (.aload_n 1, 1) := by decide +kernel
theorem dX11_init_124 : decode cX11_init 124 = .ok (.putfield 77, 3) := by decide +kernel
theorem dX11_init_127 : decode cX11_init 127 = .ok (.aload_n 0, 1) := by decide +kernel
theorem dX11_init_128 : decode cX11_init 128 = .ok (.aload_n 2, 1) := by decide +kernel
theorem dX11_init_129 : decode cX11_init 129 = .ok (.putfield 81, 3) := by decide +kernel
theorem dX11_init_132 : decode cX11_init 132 = .ok (.aload_n 0, 1) := by decide +kernel
theorem dX11_init_133 : decode cX11_init 133 = .ok (.iconst (-1), 1) := by decide +kernel
theorem dX11_init_134 : decode cX11_init 134 = .ok (.putfield 84, 3) := by decide +kernel
theorem dX11_init_137 : decode cX11_init 137 = .ok (.return_, 1) := by decide +kernel
theorem dX11_feed_0 : decode cX11_feed 0 = .ok (.aload_n 0, 1) := by decide +kernel
theorem dX11_feed_1 : decode cX11_feed 1 = .ok (.getfield 13, 3) := by decide +kernel
theorem dX11_feed_4 : decode cX11_feed 4 = .ok (.getfield 88, 3) := by decide +kernel
theorem dX11_feed_7 : decode cX11_feed 7 = .ok (.sipush 1980, 3) := by decide +kernel
theorem dX11_feed_10 : decode cX11_feed 10 = .ok (.if_icmp .le 5, 3) := by decide +kernel
theorem dX11_feed_13 : decode cX11_feed 13 = .ok (.iconst (-1), 1) := by decide +kernel
theorem dX11_feed_14 : decode cX11_feed 14 = .ok (.ireturn, 1) := by decide +kernel
theorem dX11_feed_15 : decode cX11_feed 15 = .ok (.aload_n 0, 1) := by decide +kernel
theorem dX11_feed_16 : decode cX11_feed 16 = .ok (.getfield 13, 3) := by decide +kernel
theorem dX11_feed_19 : decode cX11_feed 19 = .ok (.iload_n 1, 1) := by decide +kernel
theorem dX11_feed_20 : decode cX11_feed 20 = .ok (.invokevirtual 91, 3) := by decide +kernel
theorem dX11_feed_23 : decode cX11_feed 23 = .ok (.aload_n 0, 1) := by decide +kernel
theorem dX11_feed_24 : decode cX11_feed 24 = .ok (.getfield 13, 3) := by decide +kernel
theorem dX11_feed_27 : decode cX11_feed 27 = .ok (.iload_n 2, 1) := by decide +kernel
theorem dX11_feed_28 : decode cX11_feed 28 = .ok (.invokevirtual 91, 3) := by decide +kernel
theorem dX11_feed_31 : decode cX11_feed 31 = .ok (.aload_n 0, 1) := by decide +kernel
theorem dX11_feed_32 : decode cX11_feed 32 = .ok (.getfield 13, 3) := by decide +kernel
theorem dX11_feed_35 : decode cX11_feed 35 = .ok (.iload_n 3, 1) := by decide +kernel
theorem dX11_feed_36 : decode cX11_feed 36 = .ok (.invokevirtual 91, 3) := by decide +kernel
theorem dX11_feed_39 : decode cX11_feed 39 = .ok (.aload_n 0, 1) := by decide +kernel
theorem dX11_feed_40 : decode cX11_feed 40 = .ok (.getfield 13, 3) := by decide +kernel
theorem dX11_feed_43 : decode cX11_feed 43 = .ok (.iload 4, 2) := by decide +kernel
theorem dX11_feed_45 : decode cX11_feed 45 = .ok (.invokevirtual 91, 3) := by decide +kernel
theorem dX11_feed_48 : decode cX11_feed 48 = .ok (.aload_n 0, 1) := by decide +kernel
theorem dX11_feed_49 : decode cX11_feed 49 = .ok (.getfield 13, 3) := by decide +kernel
theorem dX11_feed_52 : decode cX11_feed 52 = .ok (.iload 5, 2) := by decide +kernel
theorem dX11_feed_54 : decode cX11_feed 54 = .ok (.invokevirtual 91, 3) := by decide +kernel
theorem dX11_feed_57 : decode cX11_feed 57 = .ok (.aload_n 0, 1) := by decide +kernel
theorem dX11_feed_58 : decode cX11_feed 58 = .ok (.getfield 13, 3) := by decide +kernel
theorem dX11_feed_61 : decode cX11_feed 61 = .ok (.getfield 88, 3) := by decide +kernel
theorem dX11_feed_64 : decode cX11_feed 64 = .ok (.ireturn, 1) := by decide +kernel
theorem dX11_back_0 : decode cX11_back 0 = .ok (.iload_n 1, 1) := by decide +kernel
theorem dX11_back_1 : decode cX11_back 1 = .ok (.ifCond .lt 14, 3) := by decide +kernel
theorem dX11_back_4 : decode cX11_back 4 = .ok (.iload_n 1, 1) := by decide +kernel
theorem dX11_back_5 : decode cX11_back 5 = .ok (.aload_n 0, 1) := by decide +kernel
theorem dX11_back_6 : decode cX11_back 6 = .ok (.getfield 13, 3) := by decide +kernel
theorem dX11_back_9 : decode cX11_back 9 = .ok (.getfield 88, 3) := by decide +kernel
theorem dX11_back_12 : decode cX11_back 12 = .ok (.if_icmp .le 5, 3) := by decide +kernel
theorem dX11_back_15 : decode cX11_back 15 = .ok (.iconst (-1), 1) := by decide +kernel
theorem dX11_back_16 : decode cX11_back 16 = .ok (.ireturn, 1) := by decide +kernel
theorem dX11_back_17 : decode cX11_back 17 = .ok (.aload_n 0, 1) := by decide +kernel
theorem dX11_back_18 : decode cX11_back 18 = .ok (.getfield 13, 3) := by decide +kernel
theorem dX11_back_21 : decode cX11_back 21 = .ok (.dup, 1) := by decide +kernel
theorem dX11_back_22 : decode cX11_back 22 = .ok (.getfield 88, 3) := by decide +kernel
theorem dX11_back_25 : decode cX11_back 25 = .ok (.iload_n 1, 1) := by decide +kernel
theorem dX11_back_26 : decode cX11_back 26 = .ok (.isub, 1) := by decide +kernel
theorem dX11_back_27 : decode cX11_back 27 = .ok (.putfield 88, 3) := by decide +kernel
theorem dX11_back_30 : decode cX11_back 30 = .ok (.aload_n 0, 1) := by decide +kernel
theorem dX11_back_31 : decode cX11_back 31 = .ok (.getfield 13, 3) := by decide +kernel
theorem dX11_back_34 : decode cX11_back 34 = .ok (.getfield 88, 3) := by decide +kernel
theorem dX11_back_37 : decode cX11_back 37 = .ok (.ireturn, 1) := by decide +kernel
theorem dX11_read_0 : decode cX11_read 0 = .ok (.aload_n 0, 1) := by decide +kernel
theorem dX11_read_1 : decode cX11_read 1 = .ok (.getfield 24, 3) := by decide +kernel
theorem dX11_read_4 : decode cX11_read 4 = .ok (.aload_n 0, 1) := by decide +kernel
theorem dX11_read_5 : decode cX11_read 5 = .ok (.getfield 13, 3) := by decide +kernel
theorem dX11_read_8 : decode cX11_read 8 = .ok (.aload_n 0, 1) := by decide +kernel
theorem dX11_read_9 : decode cX11_read 9 = .ok (.getfield 81, 3) := by decide +kernel
theorem dX11_read_12 : decode cX11_read 12 = .ok (.invokevirtual 95, 3) := by decide +kernel
theorem dX11_read_15 : decode cX11_read 15 = .ok (.istore_n 1, 1) := by decide +kernel
theorem dX11_read_16 : decode cX11_read 16 = .ok (.aload_n 0, 1) := by decide +kernel
theorem dX11_read_17 : decode cX11_read 17 = .ok (.getfield 13, 3) := by decide +kernel
theorem dX11_read_20 : decode cX11_read 20 = .ok (.iconst 0, 1) := by decide +kernel
theorem dX11_read_21 : decode cX11_read 21 = .ok (.putfield 88, 3) := by decide +kernel
theorem dX11_read_24 : decode cX11_read 24 = .ok (.aload_n 0, 1) := by decide +kernel
theorem dX11_read_25 : decode cX11_read 25 = .ok (.aload_n 0, 1) := by decide +kernel
theorem dX11_read_26 : decode cX11_read 26 = .ok (.getfield 24, 3) := by decide +kernel
theorem dX11_read_29 : decode cX11_read 29 = .ok (.getfield 99, 3) := by decide +kernel
theorem dX11_read_32 : decode cX11_read 32 = .ok (.putfield 84, 3) := by decide +kernel
theorem dX11_read_35 : decode cX11_read 35 = .ok (.iload_n 1, 1) := by decide +kernel
theorem dX11_read_36 : decode cX11_read 36 = .ok (.ifCond .ne 7, 3) := by decide +kernel
theorem dX11_read_39 : decode cX11_read 39 = .ok (.aload_n 0, 1) := by decide +kernel
theorem dX11_read_40 : decode cX11_read 40 = .ok (.invokevirtual 100, 3) := by decide +kernel
theorem dX11_read_43 : decode cX11_read 43 = .ok (.iload_n 1, 1) := by decide +kernel
theorem dX11_read_44 : decode cX11_read 44 = .ok (.ireturn, 1) := by decide +kernel
theorem dX11_place_0 : decode cX11_place 0 = .ok (.aload_n 0, 1) := by decide +kernel
theorem dX11_place_1 : decode cX11_place 1 = .ok (.getfield 84, 3) := by decide +kernel
theorem dX11_place_4 : decode cX11_place 4 = .ok (.ireturn, 1) := by decide +kernel
theorem dX11_corner_0 : decode cX11_corner 0 = .ok (.aload_n 0, 1) := by decide +kernel
theorem dX11_corner_1 : decode cX11_corner 1 = .ok (.iload_n 1, 1) := by decide +kernel
theorem dX11_corner_2 : decode cX11_corner 2 = .ok (.invokevirtual 103, 3) := by decide +kernel
theorem dX11_corner_5 : decode cX11_corner 5 = .ok (.ifCond .ne 5, 3) := by decide +kernel
theorem dX11_corner_8 : decode cX11_corner 8 = .ok (.iconst (-1), 1) := by decide +kernel
theorem dX11_corner_9 : decode cX11_corner 9 = .ok (.ireturn, 1) := by decide +kernel
theorem dX11_corner_10 : decode cX11_corner 10 = .ok (.iload_n 2, 1) := by decide +kernel
theorem dX11_corner_11 : decode cX11_corner 11 = .ok (.tableswitch 73 0 3 #[29, 38, 47, 64], 29) := by decide +kernel
theorem dX11_corner_40 : decode cX11_corner 40 = .ok (.aload_n 0, 1) := by decide +kernel
theorem dX11_corner_41 : decode cX11_corner 41 = .ok (.getfield 73, 3) := by decide +kernel
theorem dX11_corner_44 : decode cX11_corner 44 = .ok (.iload_n 1, 1) := by decide +kernel
theorem dX11_corner_45 : decode cX11_corner 45 = .ok (.invokevirtual 107, 3) := by decide +kernel
theorem dX11_corner_48 : decode cX11_corner 48 = .ok (.ireturn, 1) := by decide +kernel
theorem dX11_corner_49 : decode cX11_corner 49 = .ok (.aload_n 0, 1) := by decide +kernel
theorem dX11_corner_50 : decode cX11_corner 50 = .ok (.getfield 73, 3) := by decide +kernel
theorem dX11_corner_53 : decode cX11_corner 53 = .ok (.iload_n 1, 1) := by decide +kernel
theorem dX11_corner_54 : decode cX11_corner 54 = .ok (.invokevirtual 111, 3) := by decide +kernel
theorem dX11_corner_57 : decode cX11_corner 57 = .ok (.ireturn, 1) := by decide +kernel
theorem dX11_corner_58 : decode cX11_corner 58 = .ok (.aload_n 0, 1) := by decide +kernel
theorem dX11_corner_59 : decode cX11_corner 59 = .ok (.getfield 73, 3) := by decide +kernel
theorem dX11_corner_62 : decode cX11_corner 62 = .ok (.getfield 114, 3) := by decide +kernel
theorem dX11_corner_65 : decode cX11_corner 65 = .ok (.iload_n 1, 1) := by decide +kernel
theorem dX11_corner_66 : decode cX11_corner 66 = .ok (.if_icmp .ne 7, 3) := by decide +kernel
theorem dX11_corner_69 : decode cX11_corner 69 = .ok (.iconst 1, 1) := by decide +kernel
theorem dX11_corner_70 : decode cX11_corner 70 = .ok (.goto 4, 3) := by decide +kernel
theorem dX11_corner_73 : decode cX11_corner 73 = .ok (.iconst 0, 1) := by decide +kernel
theorem dX11_corner_74 : decode cX11_corner 74 = .ok (.ireturn, 1) := by decide +kernel
theorem dX11_corner_75 : decode cX11_corner 75 = .ok (.aload_n 0, 1) := by decide +kernel
theorem dX11_corner_76 : decode cX11_corner 76 = .ok (.getfield 77, 3) := by decide +kernel
theorem dX11_corner_79 : decode cX11_corner 79 = .ok (.iload_n 1, 1) := by decide +kernel
theorem dX11_corner_80 : decode cX11_corner 80 = .ok (.invokevirtual 117, 3) := by decide +kernel
theorem dX11_corner_83 : decode cX11_corner 83 = .ok (.ireturn, 1) := by decide +kernel
theorem dX11_corner_84 : decode cX11_corner 84 = .ok (.iconst (-1), 1) := by decide +kernel
theorem dX11_corner_85 : decode cX11_corner 85 = .ok (.ireturn, 1) := by decide +kernel
theorem dX11_street_0 : decode cX11_street 0 = .ok (.aload_n 0, 1) := by decide +kernel
theorem dX11_street_1 : decode cX11_street 1 = .ok (.iload_n 1, 1) := by decide +kernel
theorem dX11_street_2 : decode cX11_street 2 = .ok (.invokevirtual 120, 3) := by decide +kernel
theorem dX11_street_5 : decode cX11_street 5 = .ok (.ifCond .ne 5, 3) := by decide +kernel
theorem dX11_street_8 : decode cX11_street 8 = .ok (.iconst (-1), 1) := by decide +kernel
theorem dX11_street_9 : decode cX11_street 9 = .ok (.ireturn, 1) := by decide +kernel
theorem dX11_street_10 : decode cX11_street 10 = .ok (.iload_n 2, 1) := by decide +kernel
theorem dX11_street_11 : decode cX11_street 11 = .ok (.tableswitch 89 0 4 #[33, 43, 53, 63, 80], 33) := by decide +kernel
theorem dX11_street_44 : decode cX11_street 44 = .ok (.aload_n 0, 1) := by decide +kernel
theorem dX11_street_45 : decode cX11_street 45 = .ok (.getfield 77, 3) := by decide +kernel
theorem dX11_street_48 : decode cX11_street 48 = .ok (.getfield 123, 3) := by decide +kernel
theorem dX11_street_51 : decode cX11_street 51 = .ok (.iload_n 1, 1) := by decide +kernel
theorem dX11_street_52 : decode cX11_street 52 = .ok (.iaload, 1) := by decide +kernel
theorem dX11_street_53 : decode cX11_street 53 = .ok (.ireturn, 1) := by decide +kernel
theorem dX11_street_54 : decode cX11_street 54 = .ok (.aload_n 0, 1) := by decide +kernel
theorem dX11_street_55 : decode cX11_street 55 = .ok (.getfield 77, 3) := by decide +kernel
theorem dX11_street_58 : decode cX11_street 58 = .ok (.getfield 127, 3) := by decide +kernel
theorem dX11_street_61 : decode cX11_street 61 = .ok (.iload_n 1, 1) := by decide +kernel
theorem dX11_street_62 : decode cX11_street 62 = .ok (.iaload, 1) := by decide +kernel
theorem dX11_street_63 : decode cX11_street 63 = .ok (.ireturn, 1) := by decide +kernel
theorem dX11_street_64 : decode cX11_street 64 = .ok (.aload_n 0, 1) := by decide +kernel
theorem dX11_street_65 : decode cX11_street 65 = .ok (.getfield 77, 3) := by decide +kernel
theorem dX11_street_68 : decode cX11_street 68 = .ok (.getfield 130, 3) := by decide +kernel
theorem dX11_street_71 : decode cX11_street 71 = .ok (.iload_n 1, 1) := by decide +kernel
theorem dX11_street_72 : decode cX11_street 72 = .ok (.iaload, 1) := by decide +kernel
theorem dX11_street_73 : decode cX11_street 73 = .ok (.ireturn, 1) := by decide +kernel
theorem dX11_street_74 : decode cX11_street 74 = .ok (.aload_n 0, 1) := by decide +kernel
theorem dX11_street_75 : decode cX11_street 75 = .ok (.getfield 73, 3) := by decide +kernel
theorem dX11_street_78 : decode cX11_street 78 = .ok (.iload_n 1, 1) := by decide +kernel
theorem dX11_street_79 : decode cX11_street 79 = .ok (.invokevirtual 133, 3) := by decide +kernel
theorem dX11_street_82 : decode cX11_street 82 = .ok (.ifCond .eq 7, 3) := by decide +kernel
theorem dX11_street_85 : decode cX11_street 85 = .ok (.iconst 1, 1) := by decide +kernel
theorem dX11_street_86 : decode cX11_street 86 = .ok (.goto 4, 3) := by decide +kernel
theorem dX11_street_89 : decode cX11_street 89 = .ok (.iconst 0, 1) := by decide +kernel
theorem dX11_street_90 : decode cX11_street 90 = .ok (.ireturn, 1) := by decide +kernel
theorem dX11_street_91 : decode cX11_street 91 = .ok (.aload_n 0, 1) := by decide +kernel
theorem dX11_street_92 : decode cX11_street 92 = .ok (.getfield 73, 3) := by decide +kernel
theorem dX11_street_95 : decode cX11_street 95 = .ok (.iload_n 1, 1) := by decide +kernel
theorem dX11_street_96 : decode cX11_street 96 = .ok (.invokevirtual 136, 3) := by decide +kernel
theorem dX11_street_99 : decode cX11_street 99 = .ok (.ireturn, 1) := by decide +kernel
theorem dX11_street_100 : decode cX11_street 100 = .ok (.iconst (-1), 1) := by decide +kernel
theorem dX11_street_101 : decode cX11_street 101 = .ok (.ireturn, 1) := by decide +kernel
theorem dX11_young_0 : decode cX11_young 0 = .ok (.aload_n 0, 1) := by decide +kernel
theorem dX11_young_1 : decode cX11_young 1 = .ok (.iload_n 1, 1) := by decide +kernel
theorem dX11_young_2 : decode cX11_young 2 = .ok (.invokevirtual 139, 3) := by decide +kernel
theorem dX11_young_5 : decode cX11_young 5 = .ok (.ifCond .ne 5, 3) := by decide +kernel
theorem dX11_young_8 : decode cX11_young 8 = .ok (.iconst (-1), 1) := by decide +kernel
theorem dX11_young_9 : decode cX11_young 9 = .ok (.ireturn, 1) := by decide +kernel
theorem dX11_young_10 : decode cX11_young 10 = .ok (.iload_n 2, 1) := by decide +kernel
theorem dX11_young_11 : decode cX11_young 11 = .ok (.tableswitch 201 0 9 #[53, 63, 73, 83, 93, 110, 120, 129, 141, 169], 53) := by decide +kernel
theorem dX11_young_64 : decode cX11_young 64 = .ok (.aload_n 0, 1) := by decide +kernel
theorem dX11_young_65 : decode cX11_young 65 = .ok (.getfield 77, 3) := by decide +kernel
theorem dX11_young_68 : decode cX11_young 68 = .ok (.getfield 142, 3) := by decide +kernel
theorem dX11_young_71 : decode cX11_young 71 = .ok (.iload_n 1, 1) := by decide +kernel
theorem dX11_young_72 : decode cX11_young 72 = .ok (.iaload, 1) := by decide +kernel
theorem dX11_young_73 : decode cX11_young 73 = .ok (.ireturn, 1) := by decide +kernel
theorem dX11_young_74 : decode cX11_young 74 = .ok (.aload_n 0, 1) := by decide +kernel
theorem dX11_young_75 : decode cX11_young 75 = .ok (.getfield 77, 3) := by decide +kernel
theorem dX11_young_78 : decode cX11_young 78 = .ok (.getfield 145, 3) := by decide +kernel
theorem dX11_young_81 : decode cX11_young 81 = .ok (.iload_n 1, 1) := by decide +kernel
theorem dX11_young_82 : decode cX11_young 82 = .ok (.iaload, 1) := by decide +kernel
theorem dX11_young_83 : decode cX11_young 83 = .ok (.ireturn, 1) := by decide +kernel
theorem dX11_young_84 : decode cX11_young 84 = .ok (.aload_n 0, 1) := by decide +kernel
theorem dX11_young_85 : decode cX11_young 85 = .ok (.getfield 73, 3) := by decide +kernel
theorem dX11_young_88 : decode cX11_young 88 = .ok (.getfield 148, 3) := by decide +kernel
theorem dX11_young_91 : decode cX11_young 91 = .ok (.iload_n 1, 1) := by decide +kernel
theorem dX11_young_92 : decode cX11_young 92 = .ok (.iaload, 1) := by decide +kernel
theorem dX11_young_93 : decode cX11_young 93 = .ok (.ireturn, 1) := by decide +kernel
theorem dX11_young_94 : decode cX11_young 94 = .ok (.aload_n 0, 1) := by decide +kernel
theorem dX11_young_95 : decode cX11_young 95 = .ok (.getfield 73, 3) := by decide +kernel
theorem dX11_young_98 : decode cX11_young 98 = .ok (.getfield 151, 3) := by decide +kernel
theorem dX11_young_101 : decode cX11_young 101 = .ok (.iload_n 1, 1) := by decide +kernel
theorem dX11_young_102 : decode cX11_young 102 = .ok (.iaload, 1) := by decide +kernel
theorem dX11_young_103 : decode cX11_young 103 = .ok (.ireturn, 1) := by decide +kernel
theorem dX11_young_104 : decode cX11_young 104 = .ok (.aload_n 0, 1) := by decide +kernel
theorem dX11_young_105 : decode cX11_young 105 = .ok (.getfield 73, 3) := by decide +kernel
theorem dX11_young_108 : decode cX11_young 108 = .ok (.iload_n 1, 1) := by decide +kernel
theorem dX11_young_109 : decode cX11_young 109 = .ok (.invokevirtual 154, 3) := by decide +kernel
theorem dX11_young_112 : decode cX11_young 112 = .ok (.ifCond .eq 7, 3) := by decide +kernel
theorem dX11_young_115 : decode cX11_young 115 = .ok (.iconst 1, 1) := by decide +kernel
theorem dX11_young_116 : decode cX11_young 116 = .ok (.goto 4, 3) := by decide +kernel
theorem dX11_young_119 : decode cX11_young 119 = .ok (.iconst 0, 1) := by decide +kernel
theorem dX11_young_120 : decode cX11_young 120 = .ok (.ireturn, 1) := by decide +kernel
theorem dX11_young_121 : decode cX11_young 121 = .ok (.aload_n 0, 1) := by decide +kernel
theorem dX11_young_122 : decode cX11_young 122 = .ok (.getfield 73, 3) := by decide +kernel
theorem dX11_young_125 : decode cX11_young 125 = .ok (.getfield 157, 3) := by decide +kernel
theorem dX11_young_128 : decode cX11_young 128 = .ok (.iload_n 1, 1) := by decide +kernel
theorem dX11_young_129 : decode cX11_young 129 = .ok (.iaload, 1) := by decide +kernel
theorem dX11_young_130 : decode cX11_young 130 = .ok (.ireturn, 1) := by decide +kernel
theorem dX11_young_131 : decode cX11_young 131 = .ok (.aload_n 0, 1) := by decide +kernel
theorem dX11_young_132 : decode cX11_young 132 = .ok (.getfield 73, 3) := by decide +kernel
theorem dX11_young_135 : decode cX11_young 135 = .ok (.iload_n 1, 1) := by decide +kernel
theorem dX11_young_136 : decode cX11_young 136 = .ok (.invokevirtual 160, 3) := by decide +kernel
theorem dX11_young_139 : decode cX11_young 139 = .ok (.ireturn, 1) := by decide +kernel
theorem dX11_young_140 : decode cX11_young 140 = .ok (.aload_n 0, 1) := by decide +kernel
theorem dX11_young_141 : decode cX11_young 141 = .ok (.getfield 73, 3) := by decide +kernel
theorem dX11_young_144 : decode cX11_young 144 = .ok (.getfield 163, 3) := by decide +kernel
theorem dX11_young_147 : decode cX11_young 147 = .ok (.iload_n 1, 1) := by decide +kernel
theorem dX11_young_148 : decode cX11_young 148 = .ok (.ishr, 1) := by decide +kernel
theorem dX11_young_149 : decode cX11_young 149 = .ok (.iconst 1, 1) := by decide +kernel
theorem dX11_young_150 : decode cX11_young 150 = .ok (.iand, 1) := by decide +kernel
theorem dX11_young_151 : decode cX11_young 151 = .ok (.ireturn, 1) := by decide +kernel
theorem dX11_young_152 : decode cX11_young 152 = .ok (.aload_n 0, 1) := by decide +kernel
theorem dX11_young_153 : decode cX11_young 153 = .ok (.getfield 73, 3) := by decide +kernel
theorem dX11_young_156 : decode cX11_young 156 = .ok (.iload_n 1, 1) := by decide +kernel
theorem dX11_young_157 : decode cX11_young 157 = .ok (.invokevirtual 154, 3) := by decide +kernel
theorem dX11_young_160 : decode cX11_young 160 = .ok (.ifCond .eq 7, 3) := by decide +kernel
theorem dX11_young_163 : decode cX11_young 163 = .ok (.iconst 0, 1) := by decide +kernel
theorem dX11_young_164 : decode cX11_young 164 = .ok (.goto 15, 3) := by decide +kernel
theorem dX11_young_167 : decode cX11_young 167 = .ok (.aload_n 0, 1) := by decide +kernel
theorem dX11_young_168 : decode cX11_young 168 = .ok (.getfield 31, 3) := by decide +kernel
theorem dX11_young_171 : decode cX11_young 171 = .ok (.aload_n 0, 1) := by decide +kernel
theorem dX11_young_172 : decode cX11_young 172 = .ok (.getfield 73, 3) := by decide +kernel
theorem dX11_young_175 : decode cX11_young 175 = .ok (.iload_n 1, 1) := by decide +kernel
theorem dX11_young_176 : decode cX11_young 176 = .ok (.invokevirtual 166, 3) := by decide +kernel
theorem dX11_young_179 : decode cX11_young 179 = .ok (.ireturn, 1) := by decide +kernel
theorem dX11_young_180 : decode cX11_young 180 = .ok (.aload_n 0, 1) := by decide +kernel
theorem dX11_young_181 : decode cX11_young 181 = .ok (.getfield 73, 3) := by decide +kernel
theorem dX11_young_184 : decode cX11_young 184 = .ok (.iload_n 1, 1) := by decide +kernel
theorem dX11_young_185 : decode cX11_young 185 = .ok (.invokevirtual 154, 3) := by decide +kernel
theorem dX11_young_188 : decode cX11_young 188 = .ok (.ifCond .ne 22, 3) := by decide +kernel
theorem dX11_young_191 : decode cX11_young 191 = .ok (.aload_n 0, 1) := by decide +kernel
theorem dX11_young_192 : decode cX11_young 192 = .ok (.getfield 31, 3) := by decide +kernel
theorem dX11_young_195 : decode cX11_young 195 = .ok (.aload_n 0, 1) := by decide +kernel
theorem dX11_young_196 : decode cX11_young 196 = .ok (.getfield 73, 3) := by decide +kernel
theorem dX11_young_199 : decode cX11_young 199 = .ok (.iload_n 1, 1) := by decide +kernel
theorem dX11_young_200 : decode cX11_young 200 = .ok (.invokevirtual 170, 3) := by decide +kernel
theorem dX11_young_203 : decode cX11_young 203 = .ok (.ifCond .eq 7, 3) := by decide +kernel
theorem dX11_young_206 : decode cX11_young 206 = .ok (.iconst 1, 1) := by decide +kernel
theorem dX11_young_207 : decode cX11_young 207 = .ok (.goto 4, 3) := by decide +kernel
theorem dX11_young_210 : decode cX11_young 210 = .ok (.iconst 0, 1) := by decide +kernel
theorem dX11_young_211 : decode cX11_young 211 = .ok (.ireturn, 1) := by decide +kernel
theorem dX11_young_212 : decode cX11_young 212 = .ok (.iconst (-1), 1) := by decide +kernel
theorem dX11_young_213 : decode cX11_young 213 = .ok (.ireturn, 1) := by decide +kernel
theorem dX11_word_0 : decode cX11_word 0 = .ok (.aload_n 0, 1) := by decide +kernel
theorem dX11_word_1 : decode cX11_word 1 = .ok (.iload_n 1, 1) := by decide +kernel
theorem dX11_word_2 : decode cX11_word 2 = .ok (.invokevirtual 174, 3) := by decide +kernel
theorem dX11_word_5 : decode cX11_word 5 = .ok (.ifCond .ne 5, 3) := by decide +kernel
theorem dX11_word_8 : decode cX11_word 8 = .ok (.iconst (-1), 1) := by decide +kernel
theorem dX11_word_9 : decode cX11_word 9 = .ok (.ireturn, 1) := by decide +kernel
theorem dX11_word_10 : decode cX11_word 10 = .ok (.iload_n 2, 1) := by decide +kernel
theorem dX11_word_11 : decode cX11_word 11 = .ok (.lookupswitch 45 #[(0, 25), (1, 35)], 25) := by decide +kernel
theorem dX11_word_36 : decode cX11_word 36 = .ok (.aload_n 0, 1) := by decide +kernel
theorem dX11_word_37 : decode cX11_word 37 = .ok (.getfield 73, 3) := by decide +kernel
theorem dX11_word_40 : decode cX11_word 40 = .ok (.getfield 177, 3) := by decide +kernel
theorem dX11_word_43 : decode cX11_word 43 = .ok (.iload_n 1, 1) := by decide +kernel
theorem dX11_word_44 : decode cX11_word 44 = .ok (.iaload, 1) := by decide +kernel
theorem dX11_word_45 : decode cX11_word 45 = .ok (.ireturn, 1) := by decide +kernel
theorem dX11_word_46 : decode cX11_word 46 = .ok (.aload_n 0, 1) := by decide +kernel
theorem dX11_word_47 : decode cX11_word 47 = .ok (.getfield 73, 3) := by decide +kernel
theorem dX11_word_50 : decode cX11_word 50 = .ok (.getfield 180, 3) := by decide +kernel
theorem dX11_word_53 : decode cX11_word 53 = .ok (.iload_n 1, 1) := by decide +kernel
theorem dX11_word_54 : decode cX11_word 54 = .ok (.iaload, 1) := by decide +kernel
theorem dX11_word_55 : decode cX11_word 55 = .ok (.ireturn, 1) := by decide +kernel
theorem dX11_word_56 : decode cX11_word 56 = .ok (.iconst (-1), 1) := by decide +kernel
theorem dX11_word_57 : decode cX11_word 57 = .ok (.ireturn, 1) := by decide +kernel
theorem dX11_tells_0 : decode cX11_tells 0 = .ok (.aload_n 0, 1) := by decide +kernel
theorem dX11_tells_1 : decode cX11_tells 1 = .ok (.iload_n 1, 1) := by decide +kernel
theorem dX11_tells_2 : decode cX11_tells 2 = .ok (.invokevirtual 139, 3) := by decide +kernel
theorem dX11_tells_5 : decode cX11_tells 5 = .ok (.ifCond .eq 11, 3) := by decide +kernel
theorem dX11_tells_8 : decode cX11_tells 8 = .ok (.aload_n 0, 1) := by decide +kernel
theorem dX11_tells_9 : decode cX11_tells 9 = .ok (.iload_n 2, 1) := by decide +kernel
theorem dX11_tells_10 : decode cX11_tells 10 = .ok (.invokevirtual 174, 3) := by decide +kernel
theorem dX11_tells_13 : decode cX11_tells 13 = .ok (.ifCond .ne 5, 3) := by decide +kernel
theorem dX11_tells_16 : decode cX11_tells 16 = .ok (.iconst (-1), 1) := by decide +kernel
theorem dX11_tells_17 : decode cX11_tells 17 = .ok (.ireturn, 1) := by decide +kernel
theorem dX11_tells_18 : decode cX11_tells 18 = .ok (.iload_n 3, 1) := by decide +kernel
theorem dX11_tells_19 : decode cX11_tells 19 = .ok (.lookupswitch 53 #[(0, 25), (1, 39)], 25) := by decide +kernel
theorem dX11_tells_44 : decode cX11_tells 44 = .ok (.aload_n 0, 1) := by decide +kernel
theorem dX11_tells_45 : decode cX11_tells 45 = .ok (.getfield 31, 3) := by decide +kernel
theorem dX11_tells_48 : decode cX11_tells 48 = .ok (.aload_n 0, 1) := by decide +kernel
theorem dX11_tells_49 : decode cX11_tells 49 = .ok (.getfield 73, 3) := by decide +kernel
theorem dX11_tells_52 : decode cX11_tells 52 = .ok (.iload_n 1, 1) := by decide +kernel
theorem dX11_tells_53 : decode cX11_tells 53 = .ok (.iload_n 2, 1) := by decide +kernel
theorem dX11_tells_54 : decode cX11_tells 54 = .ok (.invokevirtual 183, 3) := by decide +kernel
theorem dX11_tells_57 : decode cX11_tells 57 = .ok (.ireturn, 1) := by decide +kernel
theorem dX11_tells_58 : decode cX11_tells 58 = .ok (.aload_n 0, 1) := by decide +kernel
theorem dX11_tells_59 : decode cX11_tells 59 = .ok (.getfield 31, 3) := by decide +kernel
theorem dX11_tells_62 : decode cX11_tells 62 = .ok (.aload_n 0, 1) := by decide +kernel
theorem dX11_tells_63 : decode cX11_tells 63 = .ok (.getfield 73, 3) := by decide +kernel
theorem dX11_tells_66 : decode cX11_tells 66 = .ok (.iload_n 1, 1) := by decide +kernel
theorem dX11_tells_67 : decode cX11_tells 67 = .ok (.iload_n 2, 1) := by decide +kernel
theorem dX11_tells_68 : decode cX11_tells 68 = .ok (.invokevirtual 187, 3) := by decide +kernel
theorem dX11_tells_71 : decode cX11_tells 71 = .ok (.ireturn, 1) := by decide +kernel
theorem dX11_tells_72 : decode cX11_tells 72 = .ok (.iconst (-1), 1) := by decide +kernel
theorem dX11_tells_73 : decode cX11_tells 73 = .ok (.ireturn, 1) := by decide +kernel
theorem dX11_step_0 : decode cX11_step 0 = .ok (.aload_n 0, 1) := by decide +kernel
theorem dX11_step_1 : decode cX11_step 1 = .ok (.iload_n 1, 1) := by decide +kernel
theorem dX11_step_2 : decode cX11_step 2 = .ok (.invokevirtual 120, 3) := by decide +kernel
theorem dX11_step_5 : decode cX11_step 5 = .ok (.ifCond .ne 5, 3) := by decide +kernel
theorem dX11_step_8 : decode cX11_step 8 = .ok (.iconst (-1), 1) := by decide +kernel
theorem dX11_step_9 : decode cX11_step 9 = .ok (.ireturn, 1) := by decide +kernel
theorem dX11_step_10 : decode cX11_step 10 = .ok (.aload_n 0, 1) := by decide +kernel
theorem dX11_step_11 : decode cX11_step 11 = .ok (.getfield 77, 3) := by decide +kernel
theorem dX11_step_14 : decode cX11_step 14 = .ok (.aload_n 0, 1) := by decide +kernel
theorem dX11_step_15 : decode cX11_step 15 = .ok (.getfield 73, 3) := by decide +kernel
theorem dX11_step_18 : decode cX11_step 18 = .ok (.getfield 114, 3) := by decide +kernel
theorem dX11_step_21 : decode cX11_step 21 = .ok (.iload_n 1, 1) := by decide +kernel
theorem dX11_step_22 : decode cX11_step 22 = .ok (.invokevirtual 190, 3) := by decide +kernel
theorem dX11_step_25 : decode cX11_step 25 = .ok (.istore_n 2, 1) := by decide +kernel
theorem dX11_step_26 : decode cX11_step 26 = .ok (.iload_n 2, 1) := by decide +kernel
theorem dX11_step_27 : decode cX11_step 27 = .ok (.iconst (-1), 1) := by decide +kernel
theorem dX11_step_28 : decode cX11_step 28 = .ok (.if_icmp .ne 5, 3) := by decide +kernel
theorem dX11_step_31 : decode cX11_step 31 = .ok (.iconst (-1), 1) := by decide +kernel
theorem dX11_step_32 : decode cX11_step 32 = .ok (.ireturn, 1) := by decide +kernel
theorem dX11_step_33 : decode cX11_step 33 = .ok (.aload_n 0, 1) := by decide +kernel
theorem dX11_step_34 : decode cX11_step 34 = .ok (.invokevirtual 194, 3) := by decide +kernel
theorem dX11_step_37 : decode cX11_step 37 = .ok (.aload_n 0, 1) := by decide +kernel
theorem dX11_step_38 : decode cX11_step 38 = .ok (.getfield 73, 3) := by decide +kernel
theorem dX11_step_41 : decode cX11_step 41 = .ok (.iload_n 2, 1) := by decide +kernel
theorem dX11_step_42 : decode cX11_step 42 = .ok (.putfield 114, 3) := by decide +kernel
theorem dX11_step_45 : decode cX11_step 45 = .ok (.aload_n 0, 1) := by decide +kernel
theorem dX11_step_46 : decode cX11_step 46 = .ok (.getfield 38, 3) := by decide +kernel
theorem dX11_step_49 : decode cX11_step 49 = .ok (.aload_n 0, 1) := by decide +kernel
theorem dX11_step_50 : decode cX11_step 50 = .ok (.getfield 73, 3) := by decide +kernel
theorem dX11_step_53 : decode cX11_step 53 = .ok (.iconst 1, 1) := by decide +kernel
theorem dX11_step_54 : decode cX11_step 54 = .ok (.aload_n 0, 1) := by decide +kernel
theorem dX11_step_55 : decode cX11_step 55 = .ok (.getfield 77, 3) := by decide +kernel
theorem dX11_step_58 : decode cX11_step 58 = .ok (.getfield 197, 3) := by decide +kernel
theorem dX11_step_61 : decode cX11_step 61 = .ok (.iconst 1, 1) := by decide +kernel
theorem dX11_step_62 : decode cX11_step 62 = .ok (.invokevirtual 200, 3) := by decide +kernel
theorem dX11_step_65 : decode cX11_step 65 = .ok (.iload_n 2, 1) := by decide +kernel
theorem dX11_step_66 : decode cX11_step 66 = .ok (.ireturn, 1) := by decide +kernel
theorem dX11_say_0 : decode cX11_say 0 = .ok (.aload_n 0, 1) := by decide +kernel
theorem dX11_say_1 : decode cX11_say 1 = .ok (.iload_n 1, 1) := by decide +kernel
theorem dX11_say_2 : decode cX11_say 2 = .ok (.invokevirtual 204, 3) := by decide +kernel
theorem dX11_say_5 : decode cX11_say 5 = .ok (.ifCond .eq 30, 3) := by decide +kernel
theorem dX11_say_8 : decode cX11_say 8 = .ok (.aload_n 0, 1) := by decide +kernel
theorem dX11_say_9 : decode cX11_say 9 = .ok (.iload_n 2, 1) := by decide +kernel
theorem dX11_say_10 : decode cX11_say 10 = .ok (.invokevirtual 174, 3) := by decide +kernel
theorem dX11_say_13 : decode cX11_say 13 = .ok (.ifCond .eq 22, 3) := by decide +kernel
theorem dX11_say_16 : decode cX11_say 16 = .ok (.aload_n 0, 1) := by decide +kernel
theorem dX11_say_17 : decode cX11_say 17 = .ok (.getfield 73, 3) := by decide +kernel
theorem dX11_say_20 : decode cX11_say 20 = .ok (.getfield 148, 3) := by decide +kernel
theorem dX11_say_23 : decode cX11_say 23 = .ok (.iload_n 1, 1) := by decide +kernel
theorem dX11_say_24 : decode cX11_say 24 = .ok (.iaload, 1) := by decide +kernel
theorem dX11_say_25 : decode cX11_say 25 = .ok (.aload_n 0, 1) := by decide +kernel
theorem dX11_say_26 : decode cX11_say 26 = .ok (.getfield 73, 3) := by decide +kernel
theorem dX11_say_29 : decode cX11_say 29 = .ok (.getfield 114, 3) := by decide +kernel
theorem dX11_say_32 : decode cX11_say 32 = .ok (.if_icmp .eq 5, 3) := by decide +kernel
theorem dX11_say_35 : decode cX11_say 35 = .ok (.iconst (-1), 1) := by decide +kernel
theorem dX11_say_36 : decode cX11_say 36 = .ok (.ireturn, 1) := by decide +kernel
theorem dX11_say_37 : decode cX11_say 37 = .ok (.aload_n 0, 1) := by decide +kernel
theorem dX11_say_38 : decode cX11_say 38 = .ok (.invokevirtual 194, 3) := by decide +kernel
theorem dX11_say_41 : decode cX11_say 41 = .ok (.aload_n 0, 1) := by decide +kernel
theorem dX11_say_42 : decode cX11_say 42 = .ok (.getfield 31, 3) := by decide +kernel
theorem dX11_say_45 : decode cX11_say 45 = .ok (.aload_n 0, 1) := by decide +kernel
theorem dX11_say_46 : decode cX11_say 46 = .ok (.getfield 73, 3) := by decide +kernel
theorem dX11_say_49 : decode cX11_say 49 = .ok (.iload_n 1, 1) := by decide +kernel
theorem dX11_say_50 : decode cX11_say 50 = .ok (.iload_n 2, 1) := by decide +kernel
theorem dX11_say_51 : decode cX11_say 51 = .ok (.invokevirtual 187, 3) := by decide +kernel
theorem dX11_say_54 : decode cX11_say 54 = .ok (.istore_n 3, 1) := by decide +kernel
theorem dX11_say_55 : decode cX11_say 55 = .ok (.aload_n 0, 1) := by decide +kernel
theorem dX11_say_56 : decode cX11_say 56 = .ok (.getfield 73, 3) := by decide +kernel
theorem dX11_say_59 : decode cX11_say 59 = .ok (.getfield 151, 3) := by decide +kernel
theorem dX11_say_62 : decode cX11_say 62 = .ok (.iload_n 1, 1) := by decide +kernel
theorem dX11_say_63 : decode cX11_say 63 = .ok (.aload_n 0, 1) := by decide +kernel
theorem dX11_say_64 : decode cX11_say 64 = .ok (.getfield 31, 3) := by decide +kernel
theorem dX11_say_67 : decode cX11_say 67 = .ok (.aload_n 0, 1) := by decide +kernel
theorem dX11_say_68 : decode cX11_say 68 = .ok (.getfield 73, 3) := by decide +kernel
theorem dX11_say_71 : decode cX11_say 71 = .ok (.iload_n 1, 1) := by decide +kernel
theorem dX11_say_72 : decode cX11_say 72 = .ok (.iload_n 2, 1) := by decide +kernel
theorem dX11_say_73 : decode cX11_say 73 = .ok (.invokevirtual 207, 3) := by decide +kernel
theorem dX11_say_76 : decode cX11_say 76 = .ok (.iastore, 1) := by decide +kernel
theorem dX11_say_77 : decode cX11_say 77 = .ok (.aload_n 0, 1) := by decide +kernel
theorem dX11_say_78 : decode cX11_say 78 = .ok (.getfield 73, 3) := by decide +kernel
theorem dX11_say_81 : decode cX11_say 81 = .ok (.getfield 177, 3) := by decide +kernel
theorem dX11_say_84 : decode cX11_say 84 = .ok (.iload_n 2, 1) := by decide +kernel
theorem dX11_say_85 : decode cX11_say 85 = .ok (.iconst 0, 1) := by decide +kernel
theorem dX11_say_86 : decode cX11_say 86 = .ok (.aload_n 0, 1) := by decide +kernel
theorem dX11_say_87 : decode cX11_say 87 = .ok (.getfield 73, 3) := by decide +kernel
theorem dX11_say_90 : decode cX11_say 90 = .ok (.getfield 177, 3) := by decide +kernel
theorem dX11_say_93 : decode cX11_say 93 = .ok (.iload_n 2, 1) := by decide +kernel
theorem dX11_say_94 : decode cX11_say 94 = .ok (.iaload, 1) := by decide +kernel
theorem dX11_say_95 : decode cX11_say 95 = .ok (.iload_n 3, 1) := by decide +kernel
theorem dX11_say_96 : decode cX11_say 96 = .ok (.isub, 1) := by decide +kernel
theorem dX11_say_97 : decode cX11_say 97 = .ok (.invokestatic 210, 3) := by decide +kernel
theorem dX11_say_100 : decode cX11_say 100 = .ok (.iastore, 1) := by decide +kernel
theorem dX11_say_101 : decode cX11_say 101 = .ok (.aload_n 0, 1) := by decide +kernel
theorem dX11_say_102 : decode cX11_say 102 = .ok (.getfield 73, 3) := by decide +kernel
theorem dX11_say_105 : decode cX11_say 105 = .ok (.getfield 180, 3) := by decide +kernel
theorem dX11_say_108 : decode cX11_say 108 = .ok (.iload_n 2, 1) := by decide +kernel
theorem dX11_say_109 : decode cX11_say 109 = .ok (.dup2, 1) := by decide +kernel
theorem dX11_say_110 : decode cX11_say 110 = .ok (.iaload, 1) := by decide +kernel
theorem dX11_say_111 : decode cX11_say 111 = .ok (.iconst 1, 1) := by decide +kernel
theorem dX11_say_112 : decode cX11_say 112 = .ok (.iadd, 1) := by decide +kernel
theorem dX11_say_113 : decode cX11_say 113 = .ok (.iastore, 1) := by decide +kernel
theorem dX11_say_114 : decode cX11_say 114 = .ok (.aload_n 0, 1) := by decide +kernel
theorem dX11_say_115 : decode cX11_say 115 = .ok (.getfield 73, 3) := by decide +kernel
theorem dX11_say_118 : decode cX11_say 118 = .ok (.getfield 157, 3) := by decide +kernel
theorem dX11_say_121 : decode cX11_say 121 = .ok (.iload_n 1, 1) := by decide +kernel
theorem dX11_say_122 : decode cX11_say 122 = .ok (.dup2, 1) := by decide +kernel
theorem dX11_say_123 : decode cX11_say 123 = .ok (.iaload, 1) := by decide +kernel
theorem dX11_say_124 : decode cX11_say 124 = .ok (.iconst 1, 1) := by decide +kernel
theorem dX11_say_125 : decode cX11_say 125 = .ok (.iadd, 1) := by decide +kernel
theorem dX11_say_126 : decode cX11_say 126 = .ok (.iastore, 1) := by decide +kernel
theorem dX11_say_127 : decode cX11_say 127 = .ok (.aload_n 0, 1) := by decide +kernel
theorem dX11_say_128 : decode cX11_say 128 = .ok (.getfield 73, 3) := by decide +kernel
theorem dX11_say_131 : decode cX11_say 131 = .ok (.getfield 215, 3) := by decide +kernel
theorem dX11_say_134 : decode cX11_say 134 = .ok (.iload_n 1, 1) := by decide +kernel
theorem dX11_say_135 : decode cX11_say 135 = .ok (.aload_n 0, 1) := by decide +kernel
theorem dX11_say_136 : decode cX11_say 136 = .ok (.getfield 73, 3) := by decide +kernel
theorem dX11_say_139 : decode cX11_say 139 = .ok (.getfield 218, 3) := by decide +kernel
theorem dX11_say_142 : decode cX11_say 142 = .ok (.iastore, 1) := by decide +kernel
theorem dX11_say_143 : decode cX11_say 143 = .ok (.aload_n 0, 1) := by decide +kernel
theorem dX11_say_144 : decode cX11_say 144 = .ok (.getfield 73, 3) := by decide +kernel
theorem dX11_say_147 : decode cX11_say 147 = .ok (.getfield 151, 3) := by decide +kernel
theorem dX11_say_150 : decode cX11_say 150 = .ok (.iload_n 1, 1) := by decide +kernel
theorem dX11_say_151 : decode cX11_say 151 = .ok (.iaload, 1) := by decide +kernel
theorem dX11_say_152 : decode cX11_say 152 = .ok (.ireturn, 1) := by decide +kernel
theorem dX11_move_0 : decode cX11_move 0 = .ok (.aload_n 0, 1) := by decide +kernel
theorem dX11_move_1 : decode cX11_move 1 = .ok (.iload_n 1, 1) := by decide +kernel
theorem dX11_move_2 : decode cX11_move 2 = .ok (.invokevirtual 204, 3) := by decide +kernel
theorem dX11_move_5 : decode cX11_move 5 = .ok (.ifCond .eq 24, 3) := by decide +kernel
theorem dX11_move_8 : decode cX11_move 8 = .ok (.aload_n 0, 1) := by decide +kernel
theorem dX11_move_9 : decode cX11_move 9 = .ok (.iload_n 2, 1) := by decide +kernel
theorem dX11_move_10 : decode cX11_move 10 = .ok (.invokevirtual 103, 3) := by decide +kernel
theorem dX11_move_13 : decode cX11_move 13 = .ok (.ifCond .eq 16, 3) := by decide +kernel
theorem dX11_move_16 : decode cX11_move 16 = .ok (.aload_n 0, 1) := by decide +kernel
theorem dX11_move_17 : decode cX11_move 17 = .ok (.getfield 73, 3) := by decide +kernel
theorem dX11_move_20 : decode cX11_move 20 = .ok (.getfield 148, 3) := by decide +kernel
theorem dX11_move_23 : decode cX11_move 23 = .ok (.iload_n 1, 1) := by decide +kernel
theorem dX11_move_24 : decode cX11_move 24 = .ok (.iaload, 1) := by decide +kernel
theorem dX11_move_25 : decode cX11_move 25 = .ok (.iload_n 2, 1) := by decide +kernel
theorem dX11_move_26 : decode cX11_move 26 = .ok (.if_icmp .ne 5, 3) := by decide +kernel
theorem dX11_move_29 : decode cX11_move 29 = .ok (.iconst 0, 1) := by decide +kernel
theorem dX11_move_30 : decode cX11_move 30 = .ok (.ireturn, 1) := by decide +kernel
theorem dX11_move_31 : decode cX11_move 31 = .ok (.aload_n 0, 1) := by decide +kernel
theorem dX11_move_32 : decode cX11_move 32 = .ok (.invokevirtual 194, 3) := by decide +kernel
theorem dX11_move_35 : decode cX11_move 35 = .ok (.aload_n 0, 1) := by decide +kernel
theorem dX11_move_36 : decode cX11_move 36 = .ok (.getfield 73, 3) := by decide +kernel
theorem dX11_move_39 : decode cX11_move 39 = .ok (.getfield 148, 3) := by decide +kernel
theorem dX11_move_42 : decode cX11_move 42 = .ok (.iload_n 1, 1) := by decide +kernel
theorem dX11_move_43 : decode cX11_move 43 = .ok (.iload_n 2, 1) := by decide +kernel
theorem dX11_move_44 : decode cX11_move 44 = .ok (.iastore, 1) := by decide +kernel
theorem dX11_move_45 : decode cX11_move 45 = .ok (.iconst 1, 1) := by decide +kernel
theorem dX11_move_46 : decode cX11_move 46 = .ok (.ireturn, 1) := by decide +kernel
theorem dX11_rouge_0 : decode cX11_rouge 0 = .ok (.aload_n 0, 1) := by decide +kernel
theorem dX11_rouge_1 : decode cX11_rouge 1 = .ok (.iload_n 1, 1) := by decide +kernel
theorem dX11_rouge_2 : decode cX11_rouge 2 = .ok (.invokevirtual 204, 3) := by decide +kernel
theorem dX11_rouge_5 : decode cX11_rouge 5 = .ok (.ifCond .ne 5, 3) := by decide +kernel
theorem dX11_rouge_8 : decode cX11_rouge 8 = .ok (.iconst 0, 1) := by decide +kernel
theorem dX11_rouge_9 : decode cX11_rouge 9 = .ok (.ireturn, 1) := by decide +kernel
theorem dX11_rouge_10 : decode cX11_rouge 10 = .ok (.aload_n 0, 1) := by decide +kernel
theorem dX11_rouge_11 : decode cX11_rouge 11 = .ok (.invokevirtual 194, 3) := by decide +kernel
theorem dX11_rouge_14 : decode cX11_rouge 14 = .ok (.aload_n 0, 1) := by decide +kernel
theorem dX11_rouge_15 : decode cX11_rouge 15 = .ok (.getfield 73, 3) := by decide +kernel
theorem dX11_rouge_18 : decode cX11_rouge 18 = .ok (.getfield 151, 3) := by decide +kernel
theorem dX11_rouge_21 : decode cX11_rouge 21 = .ok (.iload_n 1, 1) := by decide +kernel
theorem dX11_rouge_22 : decode cX11_rouge 22 = .ok (.sipush 999, 3) := by decide +kernel
theorem dX11_rouge_25 : decode cX11_rouge 25 = .ok (.aload_n 0, 1) := by decide +kernel
theorem dX11_rouge_26 : decode cX11_rouge 26 = .ok (.getfield 73, 3) := by decide +kernel
theorem dX11_rouge_29 : decode cX11_rouge 29 = .ok (.getfield 151, 3) := by decide +kernel
theorem dX11_rouge_32 : decode cX11_rouge 32 = .ok (.iload_n 1, 1) := by decide +kernel
theorem dX11_rouge_33 : decode cX11_rouge 33 = .ok (.iaload, 1) := by decide +kernel
theorem dX11_rouge_34 : decode cX11_rouge 34 = .ok (.bipush 20, 2) := by decide +kernel
theorem dX11_rouge_36 : decode cX11_rouge 36 = .ok (.iadd, 1) := by decide +kernel
theorem dX11_rouge_37 : decode cX11_rouge 37 = .ok (.invokestatic 221, 3) := by decide +kernel
theorem dX11_rouge_40 : decode cX11_rouge 40 = .ok (.iastore, 1) := by decide +kernel
theorem dX11_rouge_41 : decode cX11_rouge 41 = .ok (.aload_n 0, 1) := by decide +kernel
theorem dX11_rouge_42 : decode cX11_rouge 42 = .ok (.getfield 73, 3) := by decide +kernel
theorem dX11_rouge_45 : decode cX11_rouge 45 = .ok (.dup, 1) := by decide +kernel
theorem dX11_rouge_46 : decode cX11_rouge 46 = .ok (.getfield 163, 3) := by decide +kernel
theorem dX11_rouge_49 : decode cX11_rouge 49 = .ok (.iconst 1, 1) := by decide +kernel
theorem dX11_rouge_50 : decode cX11_rouge 50 = .ok (.iload_n 1, 1) := by decide +kernel
theorem dX11_rouge_51 : decode cX11_rouge 51 = .ok (.ishl, 1) := by decide +kernel
theorem dX11_rouge_52 : decode cX11_rouge 52 = .ok (.ior, 1) := by decide +kernel
theorem dX11_rouge_53 : decode cX11_rouge 53 = .ok (.putfield 163, 3) := by decide +kernel
theorem dX11_rouge_56 : decode cX11_rouge 56 = .ok (.iconst 1, 1) := by decide +kernel
theorem dX11_rouge_57 : decode cX11_rouge 57 = .ok (.ireturn, 1) := by decide +kernel
theorem dX11_hours_0 : decode cX11_hours 0 = .ok (.iload_n 1, 1) := by decide +kernel
theorem dX11_hours_1 : decode cX11_hours 1 = .ok (.invokestatic 224, 3) := by decide +kernel
theorem dX11_hours_4 : decode cX11_hours 4 = .ok (.ifCond .ne 5, 3) := by decide +kernel
theorem dX11_hours_7 : decode cX11_hours 7 = .ok (.iconst (-1), 1) := by decide +kernel
theorem dX11_hours_8 : decode cX11_hours 8 = .ok (.ireturn, 1) := by decide +kernel
theorem dX11_hours_9 : decode cX11_hours 9 = .ok (.iload_n 1, 1) := by decide +kernel
theorem dX11_hours_10 : decode cX11_hours 10 = .ok (.ifCond .le 27, 3) := by decide +kernel
theorem dX11_hours_13 : decode cX11_hours 13 = .ok (.aload_n 0, 1) := by decide +kernel
theorem dX11_hours_14 : decode cX11_hours 14 = .ok (.invokevirtual 194, 3) := by decide +kernel
theorem dX11_hours_17 : decode cX11_hours 17 = .ok (.aload_n 0, 1) := by decide +kernel
theorem dX11_hours_18 : decode cX11_hours 18 = .ok (.getfield 38, 3) := by decide +kernel
theorem dX11_hours_21 : decode cX11_hours 21 = .ok (.aload_n 0, 1) := by decide +kernel
theorem dX11_hours_22 : decode cX11_hours 22 = .ok (.getfield 73, 3) := by decide +kernel
theorem dX11_hours_25 : decode cX11_hours 25 = .ok (.iload_n 1, 1) := by decide +kernel
theorem dX11_hours_26 : decode cX11_hours 26 = .ok (.aload_n 0, 1) := by decide +kernel
theorem dX11_hours_27 : decode cX11_hours 27 = .ok (.getfield 77, 3) := by decide +kernel
theorem dX11_hours_30 : decode cX11_hours 30 = .ok (.getfield 197, 3) := by decide +kernel
theorem dX11_hours_33 : decode cX11_hours 33 = .ok (.iconst 1, 1) := by decide +kernel
theorem dX11_hours_34 : decode cX11_hours 34 = .ok (.invokevirtual 200, 3) := by decide +kernel
theorem dX11_hours_37 : decode cX11_hours 37 = .ok (.aload_n 0, 1) := by decide +kernel
theorem dX11_hours_38 : decode cX11_hours 38 = .ok (.getfield 73, 3) := by decide +kernel
theorem dX11_hours_41 : decode cX11_hours 41 = .ok (.getfield 218, 3) := by decide +kernel
theorem dX11_hours_44 : decode cX11_hours 44 = .ok (.ireturn, 1) := by decide +kernel
theorem dX11_undo_0 : decode cX11_undo 0 = .ok (.aload_n 0, 1) := by decide +kernel
theorem dX11_undo_1 : decode cX11_undo 1 = .ok (.getfield 52, 3) := by decide +kernel
theorem dX11_undo_4 : decode cX11_undo 4 = .ok (.iconst 1, 1) := by decide +kernel
theorem dX11_undo_5 : decode cX11_undo 5 = .ok (.putfield 227, 3) := by decide +kernel
theorem dX11_undo_8 : decode cX11_undo 8 = .ok (.aload_n 0, 1) := by decide +kernel
theorem dX11_undo_9 : decode cX11_undo 9 = .ok (.getfield 66, 3) := by decide +kernel
theorem dX11_undo_12 : decode cX11_undo 12 = .ok (.aload_n 0, 1) := by decide +kernel
theorem dX11_undo_13 : decode cX11_undo 13 = .ok (.getfield 73, 3) := by decide +kernel
theorem dX11_undo_16 : decode cX11_undo 16 = .ok (.invokevirtual 231, 3) := by decide +kernel
theorem dX11_undo_19 : decode cX11_undo 19 = .ok (.ireturn, 1) := by decide +kernel
theorem dX11_darkens_0 : decode cX11_darkens 0 = .ok (.aload_n 0, 1) := by decide +kernel
theorem dX11_darkens_1 : decode cX11_darkens 1 = .ok (.iload_n 1, 1) := by decide +kernel
theorem dX11_darkens_2 : decode cX11_darkens 2 = .ok (.invokevirtual 120, 3) := by decide +kernel
theorem dX11_darkens_5 : decode cX11_darkens 5 = .ok (.ifCond .eq 18, 3) := by decide +kernel
theorem dX11_darkens_8 : decode cX11_darkens 8 = .ok (.aload_n 0, 1) := by decide +kernel
theorem dX11_darkens_9 : decode cX11_darkens 9 = .ok (.getfield 38, 3) := by decide +kernel
theorem dX11_darkens_12 : decode cX11_darkens 12 = .ok (.aload_n 0, 1) := by decide +kernel
theorem dX11_darkens_13 : decode cX11_darkens 13 = .ok (.getfield 73, 3) := by decide +kernel
theorem dX11_darkens_16 : decode cX11_darkens 16 = .ok (.iload_n 1, 1) := by decide +kernel
theorem dX11_darkens_17 : decode cX11_darkens 17 = .ok (.invokevirtual 235, 3) := by decide +kernel
theorem dX11_darkens_20 : decode cX11_darkens 20 = .ok (.goto 4, 3) := by decide +kernel
theorem dX11_darkens_23 : decode cX11_darkens 23 = .ok (.iconst (-1), 1) := by decide +kernel
theorem dX11_darkens_24 : decode cX11_darkens 24 = .ok (.ireturn, 1) := by decide +kernel
theorem dX11_best_0 : decode cX11_best 0 = .ok (.iload_n 1, 1) := by decide +kernel
theorem dX11_best_1 : decode cX11_best 1 = .ok (.iconst (-1), 1) := by decide +kernel
theorem dX11_best_2 : decode cX11_best 2 = .ok (.if_icmp .eq 13, 3) := by decide +kernel
theorem dX11_best_5 : decode cX11_best 5 = .ok (.aload_n 0, 1) := by decide +kernel
theorem dX11_best_6 : decode cX11_best 6 = .ok (.iload_n 1, 1) := by decide +kernel
theorem dX11_best_7 : decode cX11_best 7 = .ok (.invokevirtual 139, 3) := by decide +kernel
theorem dX11_best_10 : decode cX11_best 10 = .ok (.ifCond .ne 5, 3) := by decide +kernel
theorem dX11_best_13 : decode cX11_best 13 = .ok (.iconst (-1), 1) := by decide +kernel
theorem dX11_best_14 : decode cX11_best 14 = .ok (.ireturn, 1) := by decide +kernel
theorem dX11_best_15 : decode cX11_best 15 = .ok (.aload_n 0, 1) := by decide +kernel
theorem dX11_best_16 : decode cX11_best 16 = .ok (.getfield 52, 3) := by decide +kernel
theorem dX11_best_19 : decode cX11_best 19 = .ok (.aload_n 0, 1) := by decide +kernel
theorem dX11_best_20 : decode cX11_best 20 = .ok (.getfield 73, 3) := by decide +kernel
theorem dX11_best_23 : decode cX11_best 23 = .ok (.invokevirtual 238, 3) := by decide +kernel
theorem dX11_best_26 : decode cX11_best 26 = .ok (.iload_n 1, 1) := by decide +kernel
theorem dX11_best_27 : decode cX11_best 27 = .ok (.iconst (-1), 1) := by decide +kernel
theorem dX11_best_28 : decode cX11_best 28 = .ok (.if_icmp .ne 11, 3) := by decide +kernel
theorem dX11_best_31 : decode cX11_best 31 = .ok (.aload_n 0, 1) := by decide +kernel
theorem dX11_best_32 : decode cX11_best 32 = .ok (.getfield 52, 3) := by decide +kernel
theorem dX11_best_35 : decode cX11_best 35 = .ok (.getfield 242, 3) := by decide +kernel
theorem dX11_best_38 : decode cX11_best 38 = .ok (.ireturn, 1) := by decide +kernel
theorem dX11_best_39 : decode cX11_best 39 = .ok (.aload_n 0, 1) := by decide +kernel
theorem dX11_best_40 : decode cX11_best 40 = .ok (.getfield 73, 3) := by decide +kernel
theorem dX11_best_43 : decode cX11_best 43 = .ok (.iload_n 1, 1) := by decide +kernel
theorem dX11_best_44 : decode cX11_best 44 = .ok (.invokevirtual 154, 3) := by decide +kernel
theorem dX11_best_47 : decode cX11_best 47 = .ok (.ifCond .eq 8, 3) := by decide +kernel
theorem dX11_best_50 : decode cX11_best 50 = .ok (.bipush (-2), 2) := by decide +kernel
theorem dX11_best_52 : decode cX11_best 52 = .ok (.goto 12, 3) := by decide +kernel
theorem dX11_best_55 : decode cX11_best 55 = .ok (.aload_n 0, 1) := by decide +kernel
theorem dX11_best_56 : decode cX11_best 56 = .ok (.getfield 52, 3) := by decide +kernel
theorem dX11_best_59 : decode cX11_best 59 = .ok (.getfield 245, 3) := by decide +kernel
theorem dX11_best_62 : decode cX11_best 62 = .ok (.iload_n 1, 1) := by decide +kernel
theorem dX11_best_63 : decode cX11_best 63 = .ok (.iaload, 1) := by decide +kernel
theorem dX11_best_64 : decode cX11_best 64 = .ok (.ireturn, 1) := by decide +kernel
theorem dX11_telling_0 : decode cX11_telling 0 = .ok (.aload_n 0, 1) := by decide +kernel
theorem dX11_telling_1 : decode cX11_telling 1 = .ok (.iload_n 1, 1) := by decide +kernel
theorem dX11_telling_2 : decode cX11_telling 2 = .ok (.invokevirtual 139, 3) := by decide +kernel
theorem dX11_telling_5 : decode cX11_telling 5 = .ok (.ifCond .eq 10, 3) := by decide +kernel
theorem dX11_telling_8 : decode cX11_telling 8 = .ok (.iload_n 2, 1) := by decide +kernel
theorem dX11_telling_9 : decode cX11_telling 9 = .ok (.invokestatic 248, 3) := by decide +kernel
theorem dX11_telling_12 : decode cX11_telling 12 = .ok (.ifCond .ne 5, 3) := by decide +kernel
theorem dX11_telling_15 : decode cX11_telling 15 = .ok (.iconst (-1), 1) := by decide +kernel
theorem dX11_telling_16 : decode cX11_telling 16 = .ok (.ireturn, 1) := by decide +kernel
theorem dX11_telling_17 : decode cX11_telling 17 = .ok (.aload_n 0, 1) := by decide +kernel
theorem dX11_telling_18 : decode cX11_telling 18 = .ok (.getfield 77, 3) := by decide +kernel
theorem dX11_telling_21 : decode cX11_telling 21 = .ok (.getfield 251, 3) := by decide +kernel
theorem dX11_telling_24 : decode cX11_telling 24 = .ok (.ifCond .eq 14, 3) := by decide +kernel
theorem dX11_telling_27 : decode cX11_telling 27 = .ok (.aload_n 0, 1) := by decide +kernel
theorem dX11_telling_28 : decode cX11_telling 28 = .ok (.getfield 73, 3) := by decide +kernel
theorem dX11_telling_31 : decode cX11_telling 31 = .ok (.iload_n 1, 1) := by decide +kernel
theorem dX11_telling_32 : decode cX11_telling 32 = .ok (.invokevirtual 154, 3) := by decide +kernel
theorem dX11_telling_35 : decode cX11_telling 35 = .ok (.ifCond .eq 6, 3) := by decide +kernel
theorem dX11_telling_38 : decode cX11_telling 38 = .ok (.bipush (-2), 2) := by decide +kernel
theorem dX11_telling_40 : decode cX11_telling 40 = .ok (.ireturn, 1) := by decide +kernel
theorem dX11_telling_41 : decode cX11_telling 41 = .ok (.aload_n 0, 1) := by decide +kernel
theorem dX11_telling_42 : decode cX11_telling 42 = .ok (.getfield 31, 3) := by decide +kernel
theorem dX11_telling_45 : decode cX11_telling 45 = .ok (.aload_n 0, 1) := by decide +kernel
theorem dX11_telling_46 : decode cX11_telling 46 = .ok (.getfield 73, 3) := by decide +kernel
theorem dX11_telling_49 : decode cX11_telling 49 = .ok (.iload_n 1, 1) := by decide +kernel
theorem dX11_telling_50 : decode cX11_telling 50 = .ok (.invokevirtual 254, 3) := by decide +kernel
theorem dX11_telling_53 : decode cX11_telling 53 = .ok (.istore_n 3, 1) := by decide +kernel
theorem dX11_telling_54 : decode cX11_telling 54 = .ok (.iload_n 2, 1) := by decide +kernel
theorem dX11_telling_55 : decode cX11_telling 55 = .ok (.ifCond .ne 7, 3) := by decide +kernel
theorem dX11_telling_58 : decode cX11_telling 58 = .ok (.iload_n 3, 1) := by decide +kernel
theorem dX11_telling_59 : decode cX11_telling 59 = .ok (.goto 16, 3) := by decide +kernel
theorem dX11_telling_62 : decode cX11_telling 62 = .ok (.aload_n 0, 1) := by decide +kernel
theorem dX11_telling_63 : decode cX11_telling 63 = .ok (.getfield 31, 3) := by decide +kernel
theorem dX11_telling_66 : decode cX11_telling 66 = .ok (.aload_n 0, 1) := by decide +kernel
theorem dX11_telling_67 : decode cX11_telling 67 = .ok (.getfield 73, 3) := by decide +kernel
theorem dX11_telling_70 : decode cX11_telling 70 = .ok (.iload_n 1, 1) := by decide +kernel
theorem dX11_telling_71 : decode cX11_telling 71 = .ok (.iload_n 3, 1) := by decide +kernel
theorem dX11_telling_72 : decode cX11_telling 72 = .ok (.invokevirtual 207, 3) := by decide +kernel
theorem dX11_telling_75 : decode cX11_telling 75 = .ok (.ireturn, 1) := by decide +kernel
theorem dX11_keep_0 : decode cX11_keep 0 = .ok (.aload_n 0, 1) := by decide +kernel
theorem dX11_keep_1 : decode cX11_keep 1 = .ok (.getfield 73, 3) := by decide +kernel
theorem dX11_keep_4 : decode cX11_keep 4 = .ok (.invokevirtual 257, 3) := by decide +kernel
theorem dX11_keep_7 : decode cX11_keep 7 = .ok (.istore_n 1, 1) := by decide +kernel
theorem dX11_keep_8 : decode cX11_keep 8 = .ok (.aload_n 0, 1) := by decide +kernel
theorem dX11_keep_9 : decode cX11_keep 9 = .ok (.getfield 77, 3) := by decide +kernel
theorem dX11_keep_12 : decode cX11_keep 12 = .ok (.getfield 251, 3) := by decide +kernel
theorem dX11_keep_15 : decode cX11_keep 15 = .ok (.ifCond .eq 8, 3) := by decide +kernel
theorem dX11_keep_18 : decode cX11_keep 18 = .ok (.iload_n 1, 1) := by decide +kernel
theorem dX11_keep_19 : decode cX11_keep 19 = .ok (.iconst (-1), 1) := by decide +kernel
theorem dX11_keep_20 : decode cX11_keep 20 = .ok (.if_icmp .ne 8, 3) := by decide +kernel
theorem dX11_keep_23 : decode cX11_keep 23 = .ok (.bipush (-2), 2) := by decide +kernel
theorem dX11_keep_25 : decode cX11_keep 25 = .ok (.goto 15, 3) := by decide +kernel
theorem dX11_keep_28 : decode cX11_keep 28 = .ok (.aload_n 0, 1) := by decide +kernel
theorem dX11_keep_29 : decode cX11_keep 29 = .ok (.getfield 31, 3) := by decide +kernel
theorem dX11_keep_32 : decode cX11_keep 32 = .ok (.aload_n 0, 1) := by decide +kernel
theorem dX11_keep_33 : decode cX11_keep 33 = .ok (.getfield 73, 3) := by decide +kernel
theorem dX11_keep_36 : decode cX11_keep 36 = .ok (.iload_n 1, 1) := by decide +kernel
theorem dX11_keep_37 : decode cX11_keep 37 = .ok (.invokevirtual 261, 3) := by decide +kernel
theorem dX11_keep_40 : decode cX11_keep 40 = .ok (.ireturn, 1) := by decide +kernel
theorem dX11_steps_0 : decode cX11_steps 0 = .ok (.aload_n 0, 1) := by decide +kernel
theorem dX11_steps_1 : decode cX11_steps 1 = .ok (.iload_n 1, 1) := by decide +kernel
theorem dX11_steps_2 : decode cX11_steps 2 = .ok (.invokevirtual 103, 3) := by decide +kernel
theorem dX11_steps_5 : decode cX11_steps 5 = .ok (.ifCond .eq 28, 3) := by decide +kernel
theorem dX11_steps_8 : decode cX11_steps 8 = .ok (.aload_n 0, 1) := by decide +kernel
theorem dX11_steps_9 : decode cX11_steps 9 = .ok (.iload_n 2, 1) := by decide +kernel
theorem dX11_steps_10 : decode cX11_steps 10 = .ok (.invokevirtual 103, 3) := by decide +kernel
theorem dX11_steps_13 : decode cX11_steps 13 = .ok (.ifCond .eq 20, 3) := by decide +kernel
theorem dX11_steps_16 : decode cX11_steps 16 = .ok (.aload_n 0, 1) := by decide +kernel
theorem dX11_steps_17 : decode cX11_steps 17 = .ok (.getfield 45, 3) := by decide +kernel
theorem dX11_steps_20 : decode cX11_steps 20 = .ok (.aload_n 0, 1) := by decide +kernel
theorem dX11_steps_21 : decode cX11_steps 21 = .ok (.getfield 77, 3) := by decide +kernel
theorem dX11_steps_24 : decode cX11_steps 24 = .ok (.iload_n 1, 1) := by decide +kernel
theorem dX11_steps_25 : decode cX11_steps 25 = .ok (.iload_n 2, 1) := by decide +kernel
theorem dX11_steps_26 : decode cX11_steps 26 = .ok (.iconst 0, 1) := by decide +kernel
theorem dX11_steps_27 : decode cX11_steps 27 = .ok (.invokevirtual 264, 3) := by decide +kernel
theorem dX11_steps_30 : decode cX11_steps 30 = .ok (.goto 4, 3) := by decide +kernel
theorem dX11_steps_33 : decode cX11_steps 33 = .ok (.iconst (-1), 1) := by decide +kernel
theorem dX11_steps_34 : decode cX11_steps 34 = .ok (.ireturn, 1) := by decide +kernel
theorem dX11_round_0 : decode cX11_round 0 = .ok (.aload_n 0, 1) := by decide +kernel
theorem dX11_round_1 : decode cX11_round 1 = .ok (.getfield 77, 3) := by decide +kernel
theorem dX11_round_4 : decode cX11_round 4 = .ok (.getfield 268, 3) := by decide +kernel
theorem dX11_round_7 : decode cX11_round 7 = .ok (.ifCond .ne 6, 3) := by decide +kernel
theorem dX11_round_10 : decode cX11_round 10 = .ok (.bipush (-2), 2) := by decide +kernel
theorem dX11_round_12 : decode cX11_round 12 = .ok (.ireturn, 1) := by decide +kernel
theorem dX11_round_13 : decode cX11_round 13 = .ok (.aload_n 0, 1) := by decide +kernel
theorem dX11_round_14 : decode cX11_round 14 = .ok (.getfield 45, 3) := by decide +kernel
theorem dX11_round_17 : decode cX11_round 17 = .ok (.aload_n 0, 1) := by decide +kernel
theorem dX11_round_18 : decode cX11_round 18 = .ok (.getfield 77, 3) := by decide +kernel
theorem dX11_round_21 : decode cX11_round 21 = .ok (.aload_n 0, 1) := by decide +kernel
theorem dX11_round_22 : decode cX11_round 22 = .ok (.getfield 73, 3) := by decide +kernel
theorem dX11_round_25 : decode cX11_round 25 = .ok (.getfield 114, 3) := by decide +kernel
theorem dX11_round_28 : decode cX11_round 28 = .ok (.aload_n 0, 1) := by decide +kernel
theorem dX11_round_29 : decode cX11_round 29 = .ok (.getfield 73, 3) := by decide +kernel
theorem dX11_round_32 : decode cX11_round 32 = .ok (.invokevirtual 271, 3) := by decide +kernel
theorem dX11_round_35 : decode cX11_round 35 = .ok (.invokevirtual 274, 3) := by decide +kernel
theorem dX11_round_38 : decode cX11_round 38 = .ok (.ireturn, 1) := by decide +kernel
theorem dX11_safe_0 : decode cX11_safe 0 = .ok (.aload_n 0, 1) := by decide +kernel
theorem dX11_safe_1 : decode cX11_safe 1 = .ok (.iload_n 1, 1) := by decide +kernel
theorem dX11_safe_2 : decode cX11_safe 2 = .ok (.invokevirtual 103, 3) := by decide +kernel
theorem dX11_safe_5 : decode cX11_safe 5 = .ok (.ifCond .eq 25, 3) := by decide +kernel
theorem dX11_safe_8 : decode cX11_safe 8 = .ok (.aload_n 0, 1) := by decide +kernel
theorem dX11_safe_9 : decode cX11_safe 9 = .ok (.getfield 45, 3) := by decide +kernel
theorem dX11_safe_12 : decode cX11_safe 12 = .ok (.aload_n 0, 1) := by decide +kernel
theorem dX11_safe_13 : decode cX11_safe 13 = .ok (.getfield 77, 3) := by decide +kernel
theorem dX11_safe_16 : decode cX11_safe 16 = .ok (.iload_n 1, 1) := by decide +kernel
theorem dX11_safe_17 : decode cX11_safe 17 = .ok (.aload_n 0, 1) := by decide +kernel
theorem dX11_safe_18 : decode cX11_safe 18 = .ok (.getfield 73, 3) := by decide +kernel
theorem dX11_safe_21 : decode cX11_safe 21 = .ok (.invokevirtual 278, 3) := by decide +kernel
theorem dX11_safe_24 : decode cX11_safe 24 = .ok (.invokevirtual 281, 3) := by decide +kernel
theorem dX11_safe_27 : decode cX11_safe 27 = .ok (.goto 4, 3) := by decide +kernel
theorem dX11_safe_30 : decode cX11_safe 30 = .ok (.iconst (-1), 1) := by decide +kernel
theorem dX11_safe_31 : decode cX11_safe 31 = .ok (.ireturn, 1) := by decide +kernel
theorem dX11_dark_0 : decode cX11_dark 0 = .ok (.aload_n 0, 1) := by decide +kernel
theorem dX11_dark_1 : decode cX11_dark 1 = .ok (.iload_n 1, 1) := by decide +kernel
theorem dX11_dark_2 : decode cX11_dark 2 = .ok (.invokevirtual 103, 3) := by decide +kernel
theorem dX11_dark_5 : decode cX11_dark 5 = .ok (.ifCond .eq 34, 3) := by decide +kernel
theorem dX11_dark_8 : decode cX11_dark 8 = .ok (.aload_n 0, 1) := by decide +kernel
theorem dX11_dark_9 : decode cX11_dark 9 = .ok (.iload_n 2, 1) := by decide +kernel
theorem dX11_dark_10 : decode cX11_dark 10 = .ok (.invokevirtual 103, 3) := by decide +kernel
theorem dX11_dark_13 : decode cX11_dark 13 = .ok (.ifCond .eq 26, 3) := by decide +kernel
theorem dX11_dark_16 : decode cX11_dark 16 = .ok (.aload_n 0, 1) := by decide +kernel
theorem dX11_dark_17 : decode cX11_dark 17 = .ok (.getfield 45, 3) := by decide +kernel
theorem dX11_dark_20 : decode cX11_dark 20 = .ok (.aload_n 0, 1) := by decide +kernel
theorem dX11_dark_21 : decode cX11_dark 21 = .ok (.getfield 77, 3) := by decide +kernel
theorem dX11_dark_24 : decode cX11_dark 24 = .ok (.iload_n 1, 1) := by decide +kernel
theorem dX11_dark_25 : decode cX11_dark 25 = .ok (.iload_n 2, 1) := by decide +kernel
theorem dX11_dark_26 : decode cX11_dark 26 = .ok (.aload_n 0, 1) := by decide +kernel
theorem dX11_dark_27 : decode cX11_dark 27 = .ok (.getfield 73, 3) := by decide +kernel
theorem dX11_dark_30 : decode cX11_dark 30 = .ok (.invokevirtual 278, 3) := by decide +kernel
theorem dX11_dark_33 : decode cX11_dark 33 = .ok (.invokevirtual 264, 3) := by decide +kernel
theorem dX11_dark_36 : decode cX11_dark 36 = .ok (.goto 4, 3) := by decide +kernel
theorem dX11_dark_39 : decode cX11_dark 39 = .ok (.iconst (-1), 1) := by decide +kernel
theorem dX11_dark_40 : decode cX11_dark 40 = .ok (.ireturn, 1) := by decide +kernel
theorem dX11_bridges_0 : decode cX11_bridges 0 = .ok (.aload_n 0, 1) := by decide +kernel
theorem dX11_bridges_1 : decode cX11_bridges 1 = .ok (.getfield 45, 3) := by decide +kernel
theorem dX11_bridges_4 : decode cX11_bridges 4 = .ok (.aload_n 0, 1) := by decide +kernel
theorem dX11_bridges_5 : decode cX11_bridges 5 = .ok (.getfield 77, 3) := by decide +kernel
theorem dX11_bridges_8 : decode cX11_bridges 8 = .ok (.aload_n 0, 1) := by decide +kernel
theorem dX11_bridges_9 : decode cX11_bridges 9 = .ok (.getfield 73, 3) := by decide +kernel
theorem dX11_bridges_12 : decode cX11_bridges 12 = .ok (.invokevirtual 278, 3) := by decide +kernel
theorem dX11_bridges_15 : decode cX11_bridges 15 = .ok (.invokevirtual 284, 3) := by decide +kernel
theorem dX11_bridges_18 : decode cX11_bridges 18 = .ok (.ireturn, 1) := by decide +kernel
theorem dX11_gather_0 : decode cX11_gather 0 = .ok (.iload_n 1, 1) := by decide +kernel
theorem dX11_gather_1 : decode cX11_gather 1 = .ok (.invokestatic 248, 3) := by decide +kernel
theorem dX11_gather_4 : decode cX11_gather 4 = .ok (.ifCond .ne 5, 3) := by decide +kernel
theorem dX11_gather_7 : decode cX11_gather 7 = .ok (.iconst (-1), 1) := by decide +kernel
theorem dX11_gather_8 : decode cX11_gather 8 = .ok (.ireturn, 1) := by decide +kernel
theorem dX11_gather_9 : decode cX11_gather 9 = .ok (.aload_n 0, 1) := by decide +kernel
theorem dX11_gather_10 : decode cX11_gather 10 = .ok (.getfield 45, 3) := by decide +kernel
theorem dX11_gather_13 : decode cX11_gather 13 = .ok (.aload_n 0, 1) := by decide +kernel
theorem dX11_gather_14 : decode cX11_gather 14 = .ok (.getfield 73, 3) := by decide +kernel
theorem dX11_gather_17 : decode cX11_gather 17 = .ok (.invokevirtual 288, 3) := by decide +kernel
theorem dX11_gather_20 : decode cX11_gather 20 = .ok (.istore_n 2, 1) := by decide +kernel
theorem dX11_gather_21 : decode cX11_gather 21 = .ok (.iload_n 2, 1) := by decide +kernel
theorem dX11_gather_22 : decode cX11_gather 22 = .ok (.iconst (-1), 1) := by decide +kernel
theorem dX11_gather_23 : decode cX11_gather 23 = .ok (.if_icmp .ne 6, 3) := by decide +kernel
theorem dX11_gather_26 : decode cX11_gather 26 = .ok (.bipush (-2), 2) := by decide +kernel
theorem dX11_gather_28 : decode cX11_gather 28 = .ok (.ireturn, 1) := by decide +kernel
theorem dX11_gather_29 : decode cX11_gather 29 = .ok (.iload_n 1, 1) := by decide +kernel
theorem dX11_gather_30 : decode cX11_gather 30 = .ok (.ifCond .ne 7, 3) := by decide +kernel
theorem dX11_gather_33 : decode cX11_gather 33 = .ok (.iload_n 2, 1) := by decide +kernel
theorem dX11_gather_34 : decode cX11_gather 34 = .ok (.goto 15, 3) := by decide +kernel
theorem dX11_gather_37 : decode cX11_gather 37 = .ok (.aload_n 0, 1) := by decide +kernel
theorem dX11_gather_38 : decode cX11_gather 38 = .ok (.getfield 45, 3) := by decide +kernel
theorem dX11_gather_41 : decode cX11_gather 41 = .ok (.aload_n 0, 1) := by decide +kernel
theorem dX11_gather_42 : decode cX11_gather 42 = .ok (.getfield 73, 3) := by decide +kernel
theorem dX11_gather_45 : decode cX11_gather 45 = .ok (.iload_n 2, 1) := by decide +kernel
theorem dX11_gather_46 : decode cX11_gather 46 = .ok (.invokevirtual 292, 3) := by decide +kernel
theorem dX11_gather_49 : decode cX11_gather 49 = .ok (.ireturn, 1) := by decide +kernel
theorem dX11_moves_0 : decode cX11_moves 0 = .ok (.aload_n 0, 1) := by decide +kernel
theorem dX11_moves_1 : decode cX11_moves 1 = .ok (.iload_n 1, 1) := by decide +kernel
theorem dX11_moves_2 : decode cX11_moves 2 = .ok (.invokevirtual 120, 3) := by decide +kernel
theorem dX11_moves_5 : decode cX11_moves 5 = .ok (.ifCond .eq 10, 3) := by decide +kernel
theorem dX11_moves_8 : decode cX11_moves 8 = .ok (.iload_n 2, 1) := by decide +kernel
theorem dX11_moves_9 : decode cX11_moves 9 = .ok (.invokestatic 248, 3) := by decide +kernel
theorem dX11_moves_12 : decode cX11_moves 12 = .ok (.ifCond .ne 5, 3) := by decide +kernel
theorem dX11_moves_15 : decode cX11_moves 15 = .ok (.iconst (-1), 1) := by decide +kernel
theorem dX11_moves_16 : decode cX11_moves 16 = .ok (.ireturn, 1) := by decide +kernel
theorem dX11_moves_17 : decode cX11_moves 17 = .ok (.aload_n 0, 1) := by decide +kernel
theorem dX11_moves_18 : decode cX11_moves 18 = .ok (.getfield 52, 3) := by decide +kernel
theorem dX11_moves_21 : decode cX11_moves 21 = .ok (.aload_n 0, 1) := by decide +kernel
theorem dX11_moves_22 : decode cX11_moves 22 = .ok (.getfield 73, 3) := by decide +kernel
theorem dX11_moves_25 : decode cX11_moves 25 = .ok (.iload_n 1, 1) := by decide +kernel
theorem dX11_moves_26 : decode cX11_moves 26 = .ok (.invokevirtual 295, 3) := by decide +kernel
theorem dX11_moves_29 : decode cX11_moves 29 = .ok (.istore_n 3, 1) := by decide +kernel
theorem dX11_moves_30 : decode cX11_moves 30 = .ok (.iload_n 3, 1) := by decide +kernel
theorem dX11_moves_31 : decode cX11_moves 31 = .ok (.iconst (-1), 1) := by decide +kernel
theorem dX11_moves_32 : decode cX11_moves 32 = .ok (.if_icmp .ne 6, 3) := by decide +kernel
theorem dX11_moves_35 : decode cX11_moves 35 = .ok (.bipush (-2), 2) := by decide +kernel
theorem dX11_moves_37 : decode cX11_moves 37 = .ok (.ireturn, 1) := by decide +kernel
theorem dX11_moves_38 : decode cX11_moves 38 = .ok (.iload_n 2, 1) := by decide +kernel
theorem dX11_moves_39 : decode cX11_moves 39 = .ok (.ifCond .ne 10, 3) := by decide +kernel
theorem dX11_moves_42 : decode cX11_moves 42 = .ok (.iload_n 3, 1) := by decide +kernel
theorem dX11_moves_43 : decode cX11_moves 43 = .ok (.invokestatic 298, 3) := by decide +kernel
theorem dX11_moves_46 : decode cX11_moves 46 = .ok (.goto 4, 3) := by decide +kernel
theorem dX11_moves_49 : decode cX11_moves 49 = .ok (.iload_n 3, 1) := by decide +kernel
theorem dX11_moves_50 : decode cX11_moves 50 = .ok (.ireturn, 1) := by decide +kernel
theorem dX11_cut_0 : decode cX11_cut 0 = .ok (.aload_n 0, 1) := by decide +kernel
theorem dX11_cut_1 : decode cX11_cut 1 = .ok (.iload_n 1, 1) := by decide +kernel
theorem dX11_cut_2 : decode cX11_cut 2 = .ok (.invokevirtual 103, 3) := by decide +kernel
theorem dX11_cut_5 : decode cX11_cut 5 = .ok (.ifCond .eq 16, 3) := by decide +kernel
theorem dX11_cut_8 : decode cX11_cut 8 = .ok (.aload_n 0, 1) := by decide +kernel
theorem dX11_cut_9 : decode cX11_cut 9 = .ok (.iload_n 2, 1) := by decide +kernel
theorem dX11_cut_10 : decode cX11_cut 10 = .ok (.invokevirtual 103, 3) := by decide +kernel
theorem dX11_cut_13 : decode cX11_cut 13 = .ok (.ifCond .eq 8, 3) := by decide +kernel
theorem dX11_cut_16 : decode cX11_cut 16 = .ok (.iload_n 1, 1) := by decide +kernel
theorem dX11_cut_17 : decode cX11_cut 17 = .ok (.iload_n 2, 1) := by decide +kernel
theorem dX11_cut_18 : decode cX11_cut 18 = .ok (.if_icmp .ne 5, 3) := by decide +kernel
theorem dX11_cut_21 : decode cX11_cut 21 = .ok (.iconst (-1), 1) := by decide +kernel
theorem dX11_cut_22 : decode cX11_cut 22 = .ok (.ireturn, 1) := by decide +kernel
theorem dX11_cut_23 : decode cX11_cut 23 = .ok (.aload_n 0, 1) := by decide +kernel
theorem dX11_cut_24 : decode cX11_cut 24 = .ok (.getfield 45, 3) := by decide +kernel
theorem dX11_cut_27 : decode cX11_cut 27 = .ok (.aload_n 0, 1) := by decide +kernel
theorem dX11_cut_28 : decode cX11_cut 28 = .ok (.getfield 77, 3) := by decide +kernel
theorem dX11_cut_31 : decode cX11_cut 31 = .ok (.iload_n 1, 1) := by decide +kernel
theorem dX11_cut_32 : decode cX11_cut 32 = .ok (.iload_n 2, 1) := by decide +kernel
theorem dX11_cut_33 : decode cX11_cut 33 = .ok (.aload_n 0, 1) := by decide +kernel
theorem dX11_cut_34 : decode cX11_cut 34 = .ok (.getfield 73, 3) := by decide +kernel
theorem dX11_cut_37 : decode cX11_cut 37 = .ok (.invokevirtual 278, 3) := by decide +kernel
theorem dX11_cut_40 : decode cX11_cut 40 = .ok (.invokevirtual 303, 3) := by decide +kernel
theorem dX11_cut_43 : decode cX11_cut 43 = .ok (.ireturn, 1) := by decide +kernel
theorem dX11_tree_0 : decode cX11_tree 0 = .ok (.aload_n 0, 1) := by decide +kernel
theorem dX11_tree_1 : decode cX11_tree 1 = .ok (.getfield 45, 3) := by decide +kernel
theorem dX11_tree_4 : decode cX11_tree 4 = .ok (.aload_n 0, 1) := by decide +kernel
theorem dX11_tree_5 : decode cX11_tree 5 = .ok (.getfield 77, 3) := by decide +kernel
theorem dX11_tree_8 : decode cX11_tree 8 = .ok (.invokevirtual 306, 3) := by decide +kernel
theorem dX11_tree_11 : decode cX11_tree 11 = .ok (.ireturn, 1) := by decide +kernel
theorem dX11_twins_0 : decode cX11_twins 0 = .ok (.iload_n 1, 1) := by decide +kernel
theorem dX11_twins_1 : decode cX11_twins 1 = .ok (.invokestatic 248, 3) := by decide +kernel
theorem dX11_twins_4 : decode cX11_twins 4 = .ok (.ifCond .ne 5, 3) := by decide +kernel
theorem dX11_twins_7 : decode cX11_twins 7 = .ok (.iconst (-1), 1) := by decide +kernel
theorem dX11_twins_8 : decode cX11_twins 8 = .ok (.ireturn, 1) := by decide +kernel
theorem dX11_twins_9 : decode cX11_twins 9 = .ok (.aload_n 0, 1) := by decide +kernel
theorem dX11_twins_10 : decode cX11_twins 10 = .ok (.getfield 77, 3) := by decide +kernel
theorem dX11_twins_13 : decode cX11_twins 13 = .ok (.getfield 251, 3) := by decide +kernel
theorem dX11_twins_16 : decode cX11_twins 16 = .ok (.iconst 2, 1) := by decide +kernel
theorem dX11_twins_17 : decode cX11_twins 17 = .ok (.if_icmp .ge 6, 3) := by decide +kernel
theorem dX11_twins_20 : decode cX11_twins 20 = .ok (.bipush (-2), 2) := by decide +kernel
theorem dX11_twins_22 : decode cX11_twins 22 = .ok (.ireturn, 1) := by decide +kernel
theorem dX11_twins_23 : decode cX11_twins 23 = .ok (.aload_n 0, 1) := by decide +kernel
theorem dX11_twins_24 : decode cX11_twins 24 = .ok (.getfield 31, 3) := by decide +kernel
theorem dX11_twins_27 : decode cX11_twins 27 = .ok (.aload_n 0, 1) := by decide +kernel
theorem dX11_twins_28 : decode cX11_twins 28 = .ok (.getfield 73, 3) := by decide +kernel
theorem dX11_twins_31 : decode cX11_twins 31 = .ok (.invokevirtual 310, 3) := by decide +kernel
theorem dX11_twins_34 : decode cX11_twins 34 = .ok (.istore_n 2, 1) := by decide +kernel
theorem dX11_twins_35 : decode cX11_twins 35 = .ok (.iload_n 1, 1) := by decide +kernel
theorem dX11_twins_36 : decode cX11_twins 36 = .ok (.ifCond .ne 7, 3) := by decide +kernel
theorem dX11_twins_39 : decode cX11_twins 39 = .ok (.iload_n 2, 1) := by decide +kernel
theorem dX11_twins_40 : decode cX11_twins 40 = .ok (.goto 22, 3) := by decide +kernel
theorem dX11_twins_43 : decode cX11_twins 43 = .ok (.aload_n 0, 1) := by decide +kernel
theorem dX11_twins_44 : decode cX11_twins 44 = .ok (.getfield 31, 3) := by decide +kernel
theorem dX11_twins_47 : decode cX11_twins 47 = .ok (.aload_n 0, 1) := by decide +kernel
theorem dX11_twins_48 : decode cX11_twins 48 = .ok (.getfield 73, 3) := by decide +kernel
theorem dX11_twins_51 : decode cX11_twins 51 = .ok (.iload_n 2, 1) := by decide +kernel
theorem dX11_twins_52 : decode cX11_twins 52 = .ok (.bipush 10, 2) := by decide +kernel
theorem dX11_twins_54 : decode cX11_twins 54 = .ok (.idiv, 1) := by decide +kernel
theorem dX11_twins_55 : decode cX11_twins 55 = .ok (.iload_n 2, 1) := by decide +kernel
theorem dX11_twins_56 : decode cX11_twins 56 = .ok (.bipush 10, 2) := by decide +kernel
theorem dX11_twins_58 : decode cX11_twins 58 = .ok (.irem, 1) := by decide +kernel
theorem dX11_twins_59 : decode cX11_twins 59 = .ok (.invokevirtual 313, 3) := by decide +kernel
theorem dX11_twins_62 : decode cX11_twins 62 = .ok (.ireturn, 1) := by decide +kernel
theorem dX11_brightest_0 : decode cX11_brightest 0 = .ok (.iload_n 1, 1) := by decide +kernel
theorem dX11_brightest_1 : decode cX11_brightest 1 = .ok (.invokestatic 248, 3) := by decide +kernel
theorem dX11_brightest_4 : decode cX11_brightest 4 = .ok (.ifCond .ne 5, 3) := by decide +kernel
theorem dX11_brightest_7 : decode cX11_brightest 7 = .ok (.iconst (-1), 1) := by decide +kernel
theorem dX11_brightest_8 : decode cX11_brightest 8 = .ok (.ireturn, 1) := by decide +kernel
theorem dX11_brightest_9 : decode cX11_brightest 9 = .ok (.aload_n 0, 1) := by decide +kernel
theorem dX11_brightest_10 : decode cX11_brightest 10 = .ok (.getfield 77, 3) := by decide +kernel
theorem dX11_brightest_13 : decode cX11_brightest 13 = .ok (.getfield 268, 3) := by decide +kernel
theorem dX11_brightest_16 : decode cX11_brightest 16 = .ok (.ifCond .ne 6, 3) := by decide +kernel
theorem dX11_brightest_19 : decode cX11_brightest 19 = .ok (.bipush (-2), 2) := by decide +kernel
theorem dX11_brightest_21 : decode cX11_brightest 21 = .ok (.ireturn, 1) := by decide +kernel
theorem dX11_brightest_22 : decode cX11_brightest 22 = .ok (.aload_n 0, 1) := by decide +kernel
theorem dX11_brightest_23 : decode cX11_brightest 23 = .ok (.getfield 73, 3) := by decide +kernel
theorem dX11_brightest_26 : decode cX11_brightest 26 = .ok (.invokevirtual 316, 3) := by decide +kernel
theorem dX11_brightest_29 : decode cX11_brightest 29 = .ok (.istore_n 2, 1) := by decide +kernel
theorem dX11_brightest_30 : decode cX11_brightest 30 = .ok (.iload_n 1, 1) := by decide +kernel
theorem dX11_brightest_31 : decode cX11_brightest 31 = .ok (.ifCond .ne 7, 3) := by decide +kernel
theorem dX11_brightest_34 : decode cX11_brightest 34 = .ok (.iload_n 2, 1) := by decide +kernel
theorem dX11_brightest_35 : decode cX11_brightest 35 = .ok (.goto 11, 3) := by decide +kernel
theorem dX11_brightest_38 : decode cX11_brightest 38 = .ok (.aload_n 0, 1) := by decide +kernel
theorem dX11_brightest_39 : decode cX11_brightest 39 = .ok (.getfield 73, 3) := by decide +kernel
theorem dX11_brightest_42 : decode cX11_brightest 42 = .ok (.iload_n 2, 1) := by decide +kernel
theorem dX11_brightest_43 : decode cX11_brightest 43 = .ok (.invokevirtual 107, 3) := by decide +kernel
theorem dX11_brightest_46 : decode cX11_brightest 46 = .ok (.ireturn, 1) := by decide +kernel
theorem dX11_glowIn_0 : decode cX11_glowIn 0 = .ok (.aload_n 0, 1) := by decide +kernel
theorem dX11_glowIn_1 : decode cX11_glowIn 1 = .ok (.iload_n 1, 1) := by decide +kernel
theorem dX11_glowIn_2 : decode cX11_glowIn 2 = .ok (.invokevirtual 139, 3) := by decide +kernel
theorem dX11_glowIn_5 : decode cX11_glowIn 5 = .ok (.ifCond .eq 10, 3) := by decide +kernel
theorem dX11_glowIn_8 : decode cX11_glowIn 8 = .ok (.iload_n 2, 1) := by decide +kernel
theorem dX11_glowIn_9 : decode cX11_glowIn 9 = .ok (.invokestatic 224, 3) := by decide +kernel
theorem dX11_glowIn_12 : decode cX11_glowIn 12 = .ok (.ifCond .ne 5, 3) := by decide +kernel
theorem dX11_glowIn_15 : decode cX11_glowIn 15 = .ok (.iconst (-1), 1) := by decide +kernel
theorem dX11_glowIn_16 : decode cX11_glowIn 16 = .ok (.ireturn, 1) := by decide +kernel
theorem dX11_glowIn_17 : decode cX11_glowIn 17 = .ok (.aload_n 0, 1) := by decide +kernel
theorem dX11_glowIn_18 : decode cX11_glowIn 18 = .ok (.getfield 38, 3) := by decide +kernel
theorem dX11_glowIn_21 : decode cX11_glowIn 21 = .ok (.aload_n 0, 1) := by decide +kernel
theorem dX11_glowIn_22 : decode cX11_glowIn 22 = .ok (.getfield 73, 3) := by decide +kernel
theorem dX11_glowIn_25 : decode cX11_glowIn 25 = .ok (.iload_n 2, 1) := by decide +kernel
theorem dX11_glowIn_26 : decode cX11_glowIn 26 = .ok (.aload_n 0, 1) := by decide +kernel
theorem dX11_glowIn_27 : decode cX11_glowIn 27 = .ok (.getfield 77, 3) := by decide +kernel
theorem dX11_glowIn_30 : decode cX11_glowIn 30 = .ok (.getfield 197, 3) := by decide +kernel
theorem dX11_glowIn_33 : decode cX11_glowIn 33 = .ok (.invokevirtual 319, 3) := by decide +kernel
theorem dX11_glowIn_36 : decode cX11_glowIn 36 = .ok (.getfield 151, 3) := by decide +kernel
theorem dX11_glowIn_39 : decode cX11_glowIn 39 = .ok (.iload_n 1, 1) := by decide +kernel
theorem dX11_glowIn_40 : decode cX11_glowIn 40 = .ok (.iaload, 1) := by decide +kernel
theorem dX11_glowIn_41 : decode cX11_glowIn 41 = .ok (.ireturn, 1) := by decide +kernel
theorem dX11_then_0 : decode cX11_then 0 = .ok (.iload_n 1, 1) := by decide +kernel
theorem dX11_then_1 : decode cX11_then 1 = .ok (.invokestatic 224, 3) := by decide +kernel
theorem dX11_then_4 : decode cX11_then 4 = .ok (.ifCond .eq 10, 3) := by decide +kernel
theorem dX11_then_7 : decode cX11_then 7 = .ok (.iload_n 2, 1) := by decide +kernel
theorem dX11_then_8 : decode cX11_then 8 = .ok (.invokestatic 248, 3) := by decide +kernel
theorem dX11_then_11 : decode cX11_then 11 = .ok (.ifCond .ne 5, 3) := by decide +kernel
theorem dX11_then_14 : decode cX11_then 14 = .ok (.iconst (-1), 1) := by decide +kernel
theorem dX11_then_15 : decode cX11_then 15 = .ok (.ireturn, 1) := by decide +kernel
theorem dX11_then_16 : decode cX11_then 16 = .ok (.aload_n 0, 1) := by decide +kernel
theorem dX11_then_17 : decode cX11_then 17 = .ok (.getfield 38, 3) := by decide +kernel
theorem dX11_then_20 : decode cX11_then 20 = .ok (.aload_n 0, 1) := by decide +kernel
theorem dX11_then_21 : decode cX11_then 21 = .ok (.getfield 73, 3) := by decide +kernel
theorem dX11_then_24 : decode cX11_then 24 = .ok (.iload_n 1, 1) := by decide +kernel
theorem dX11_then_25 : decode cX11_then 25 = .ok (.aload_n 0, 1) := by decide +kernel
theorem dX11_then_26 : decode cX11_then 26 = .ok (.getfield 77, 3) := by decide +kernel
theorem dX11_then_29 : decode cX11_then 29 = .ok (.getfield 197, 3) := by decide +kernel
theorem dX11_then_32 : decode cX11_then 32 = .ok (.invokevirtual 319, 3) := by decide +kernel
theorem dX11_then_35 : decode cX11_then 35 = .ok (.astore_n 3, 1) := by decide +kernel
theorem dX11_then_36 : decode cX11_then 36 = .ok (.iload_n 2, 1) := by decide +kernel
theorem dX11_then_37 : decode cX11_then 37 = .ok (.ifCond .ne 10, 3) := by decide +kernel
theorem dX11_then_40 : decode cX11_then 40 = .ok (.aload_n 3, 1) := by decide +kernel
theorem dX11_then_41 : decode cX11_then 41 = .ok (.invokevirtual 278, 3) := by decide +kernel
theorem dX11_then_44 : decode cX11_then 44 = .ok (.goto 7, 3) := by decide +kernel
theorem dX11_then_47 : decode cX11_then 47 = .ok (.aload_n 3, 1) := by decide +kernel
theorem dX11_then_48 : decode cX11_then 48 = .ok (.getfield 323, 3) := by decide +kernel
theorem dX11_then_51 : decode cX11_then 51 = .ok (.ireturn, 1) := by decide +kernel
theorem dX11_year_0 : decode cX11_year 0 = .ok (.aload_n 0, 1) := by decide +kernel
theorem dX11_year_1 : decode cX11_year 1 = .ok (.iload_n 1, 1) := by decide +kernel
theorem dX11_year_2 : decode cX11_year 2 = .ok (.invokevirtual 120, 3) := by decide +kernel
theorem dX11_year_5 : decode cX11_year 5 = .ok (.ifCond .eq 21, 3) := by decide +kernel
theorem dX11_year_8 : decode cX11_year 8 = .ok (.iload_n 2, 1) := by decide +kernel
theorem dX11_year_9 : decode cX11_year 9 = .ok (.invokestatic 224, 3) := by decide +kernel
theorem dX11_year_12 : decode cX11_year 12 = .ok (.ifCond .eq 14, 3) := by decide +kernel
theorem dX11_year_15 : decode cX11_year 15 = .ok (.iload_n 3, 1) := by decide +kernel
theorem dX11_year_16 : decode cX11_year 16 = .ok (.iconst 1, 1) := by decide +kernel
theorem dX11_year_17 : decode cX11_year 17 = .ok (.if_icmp .lt 9, 3) := by decide +kernel
theorem dX11_year_20 : decode cX11_year 20 = .ok (.iload_n 3, 1) := by decide +kernel
theorem dX11_year_21 : decode cX11_year 21 = .ok (.bipush 20, 2) := by decide +kernel
theorem dX11_year_23 : decode cX11_year 23 = .ok (.if_icmp .le 5, 3) := by decide +kernel
theorem dX11_year_26 : decode cX11_year 26 = .ok (.iconst (-1), 1) := by decide +kernel
theorem dX11_year_27 : decode cX11_year 27 = .ok (.ireturn, 1) := by decide +kernel
theorem dX11_year_28 : decode cX11_year 28 = .ok (.iconst 0, 1) := by decide +kernel
theorem dX11_year_29 : decode cX11_year 29 = .ok (.istore 4, 2) := by decide +kernel
theorem dX11_year_31 : decode cX11_year 31 = .ok (.iconst 0, 1) := by decide +kernel
theorem dX11_year_32 : decode cX11_year 32 = .ok (.istore 5, 2) := by decide +kernel
theorem dX11_year_34 : decode cX11_year 34 = .ok (.iload 5, 2) := by decide +kernel
theorem dX11_year_36 : decode cX11_year 36 = .ok (.iload_n 3, 1) := by decide +kernel
theorem dX11_year_37 : decode cX11_year 37 = .ok (.if_icmp .ge 41, 3) := by decide +kernel
theorem dX11_year_40 : decode cX11_year 40 = .ok (.aload_n 0, 1) := by decide +kernel
theorem dX11_year_41 : decode cX11_year 41 = .ok (.getfield 38, 3) := by decide +kernel
theorem dX11_year_44 : decode cX11_year 44 = .ok (.aload_n 0, 1) := by decide +kernel
theorem dX11_year_45 : decode cX11_year 45 = .ok (.getfield 73, 3) := by decide +kernel
theorem dX11_year_48 : decode cX11_year 48 = .ok (.iload_n 2, 1) := by decide +kernel
theorem dX11_year_49 : decode cX11_year 49 = .ok (.aload_n 0, 1) := by decide +kernel
theorem dX11_year_50 : decode cX11_year 50 = .ok (.getfield 77, 3) := by decide +kernel
theorem dX11_year_53 : decode cX11_year 53 = .ok (.getfield 197, 3) := by decide +kernel
theorem dX11_year_56 : decode cX11_year 56 = .ok (.iload 5, 2) := by decide +kernel
theorem dX11_year_58 : decode cX11_year 58 = .ok (.iadd, 1) := by decide +kernel
theorem dX11_year_59 : decode cX11_year 59 = .ok (.invokevirtual 319, 3) := by decide +kernel
theorem dX11_year_62 : decode cX11_year 62 = .ok (.iload_n 1, 1) := by decide +kernel
theorem dX11_year_63 : decode cX11_year 63 = .ok (.invokevirtual 133, 3) := by decide +kernel
theorem dX11_year_66 : decode cX11_year 66 = .ok (.ifCond .eq 6, 3) := by decide +kernel
theorem dX11_year_69 : decode cX11_year 69 = .ok (.iinc 4 1, 3) := by decide +kernel
theorem dX11_year_72 : decode cX11_year 72 = .ok (.iinc 5 1, 3) := by decide +kernel
theorem dX11_year_75 : decode cX11_year 75 = .ok (.goto (-41), 3) := by decide +kernel
theorem dX11_year_78 : decode cX11_year 78 = .ok (.iload 4, 2) := by decide +kernel
theorem dX11_year_80 : decode cX11_year 80 = .ok (.ireturn, 1) := by decide +kernel
theorem dX11_tell_0 : decode cX11_tell 0 = .ok (.aload_n 0, 1) := by decide +kernel
theorem dX11_tell_1 : decode cX11_tell 1 = .ok (.iload_n 1, 1) := by decide +kernel
theorem dX11_tell_2 : decode cX11_tell 2 = .ok (.invokevirtual 204, 3) := by decide +kernel
theorem dX11_tell_5 : decode cX11_tell 5 = .ok (.ifCond .eq 22, 3) := by decide +kernel
theorem dX11_tell_8 : decode cX11_tell 8 = .ok (.iload_n 2, 1) := by decide +kernel
theorem dX11_tell_9 : decode cX11_tell 9 = .ok (.invokestatic 326, 3) := by decide +kernel
theorem dX11_tell_12 : decode cX11_tell 12 = .ok (.ifCond .eq 15, 3) := by decide +kernel
theorem dX11_tell_15 : decode cX11_tell 15 = .ok (.aload_n 0, 1) := by decide +kernel
theorem dX11_tell_16 : decode cX11_tell 16 = .ok (.getfield 59, 3) := by decide +kernel
theorem dX11_tell_19 : decode cX11_tell 19 = .ok (.getfield 329, 3) := by decide +kernel
theorem dX11_tell_22 : decode cX11_tell 22 = .ok (.bipush 20, 2) := by decide +kernel
theorem dX11_tell_24 : decode cX11_tell 24 = .ok (.if_icmp .lt 5, 3) := by decide +kernel
theorem dX11_tell_27 : decode cX11_tell 27 = .ok (.iconst (-1), 1) := by decide +kernel
theorem dX11_tell_28 : decode cX11_tell 28 = .ok (.ireturn, 1) := by decide +kernel
theorem dX11_tell_29 : decode cX11_tell 29 = .ok (.aload_n 0, 1) := by decide +kernel
theorem dX11_tell_30 : decode cX11_tell 30 = .ok (.getfield 59, 3) := by decide +kernel
theorem dX11_tell_33 : decode cX11_tell 33 = .ok (.iload_n 1, 1) := by decide +kernel
theorem dX11_tell_34 : decode cX11_tell 34 = .ok (.iload_n 2, 1) := by decide +kernel
theorem dX11_tell_35 : decode cX11_tell 35 = .ok (.iload_n 3, 1) := by decide +kernel
theorem dX11_tell_36 : decode cX11_tell 36 = .ok (.invokevirtual 332, 3) := by decide +kernel
theorem dX11_tell_39 : decode cX11_tell 39 = .ok (.aload_n 0, 1) := by decide +kernel
theorem dX11_tell_40 : decode cX11_tell 40 = .ok (.getfield 59, 3) := by decide +kernel
theorem dX11_tell_43 : decode cX11_tell 43 = .ok (.getfield 329, 3) := by decide +kernel
theorem dX11_tell_46 : decode cX11_tell 46 = .ok (.iconst 1, 1) := by decide +kernel
theorem dX11_tell_47 : decode cX11_tell 47 = .ok (.isub, 1) := by decide +kernel
theorem dX11_tell_48 : decode cX11_tell 48 = .ok (.ireturn, 1) := by decide +kernel
theorem dX11_forget_0 : decode cX11_forget 0 = .ok (.aload_n 0, 1) := by decide +kernel
theorem dX11_forget_1 : decode cX11_forget 1 = .ok (.getfield 59, 3) := by decide +kernel
theorem dX11_forget_4 : decode cX11_forget 4 = .ok (.getfield 329, 3) := by decide +kernel
theorem dX11_forget_7 : decode cX11_forget 7 = .ok (.istore_n 1, 1) := by decide +kernel
theorem dX11_forget_8 : decode cX11_forget 8 = .ok (.aload_n 0, 1) := by decide +kernel
theorem dX11_forget_9 : decode cX11_forget 9 = .ok (.getfield 59, 3) := by decide +kernel
theorem dX11_forget_12 : decode cX11_forget 12 = .ok (.iconst 0, 1) := by decide +kernel
theorem dX11_forget_13 : decode cX11_forget 13 = .ok (.putfield 329, 3) := by decide +kernel
theorem dX11_forget_16 : decode cX11_forget 16 = .ok (.iload_n 1, 1) := by decide +kernel
theorem dX11_forget_17 : decode cX11_forget 17 = .ok (.ireturn, 1) := by decide +kernel
theorem dX11_words_0 : decode cX11_words 0 = .ok (.aload_n 0, 1) := by decide +kernel
theorem dX11_words_1 : decode cX11_words 1 = .ok (.iload_n 1, 1) := by decide +kernel
theorem dX11_words_2 : decode cX11_words 2 = .ok (.invokevirtual 336, 3) := by decide +kernel
theorem dX11_words_5 : decode cX11_words 5 = .ok (.ifCond .eq 10, 3) := by decide +kernel
theorem dX11_words_8 : decode cX11_words 8 = .ok (.iload_n 2, 1) := by decide +kernel
theorem dX11_words_9 : decode cX11_words 9 = .ok (.invokestatic 248, 3) := by decide +kernel
theorem dX11_words_12 : decode cX11_words 12 = .ok (.ifCond .ne 5, 3) := by decide +kernel
theorem dX11_words_15 : decode cX11_words 15 = .ok (.iconst (-1), 1) := by decide +kernel
theorem dX11_words_16 : decode cX11_words 16 = .ok (.ireturn, 1) := by decide +kernel
theorem dX11_words_17 : decode cX11_words 17 = .ok (.aload_n 0, 1) := by decide +kernel
theorem dX11_words_18 : decode cX11_words 18 = .ok (.getfield 59, 3) := by decide +kernel
theorem dX11_words_21 : decode cX11_words 21 = .ok (.aload_n 0, 1) := by decide +kernel
theorem dX11_words_22 : decode cX11_words 22 = .ok (.getfield 31, 3) := by decide +kernel
theorem dX11_words_25 : decode cX11_words 25 = .ok (.aload_n 0, 1) := by decide +kernel
theorem dX11_words_26 : decode cX11_words 26 = .ok (.getfield 73, 3) := by decide +kernel
theorem dX11_words_29 : decode cX11_words 29 = .ok (.iload_n 1, 1) := by decide +kernel
theorem dX11_words_30 : decode cX11_words 30 = .ok (.invokevirtual 339, 3) := by decide +kernel
theorem dX11_words_33 : decode cX11_words 33 = .ok (.istore_n 3, 1) := by decide +kernel
theorem dX11_words_34 : decode cX11_words 34 = .ok (.iload_n 2, 1) := by decide +kernel
theorem dX11_words_35 : decode cX11_words 35 = .ok (.ifCond .ne 10, 3) := by decide +kernel
theorem dX11_words_38 : decode cX11_words 38 = .ok (.iload_n 3, 1) := by decide +kernel
theorem dX11_words_39 : decode cX11_words 39 = .ok (.invokestatic 298, 3) := by decide +kernel
theorem dX11_words_42 : decode cX11_words 42 = .ok (.goto 4, 3) := by decide +kernel
theorem dX11_words_45 : decode cX11_words 45 = .ok (.iload_n 3, 1) := by decide +kernel
theorem dX11_words_46 : decode cX11_words 46 = .ok (.ireturn, 1) := by decide +kernel
theorem dX11_look_0 : decode cX11_look 0 = .ok (.aload_n 0, 1) := by decide +kernel
theorem dX11_look_1 : decode cX11_look 1 = .ok (.iload_n 1, 1) := by decide +kernel
theorem dX11_look_2 : decode cX11_look 2 = .ok (.invokevirtual 336, 3) := by decide +kernel
theorem dX11_look_5 : decode cX11_look 5 = .ok (.ifCond .eq 10, 3) := by decide +kernel
theorem dX11_look_8 : decode cX11_look 8 = .ok (.iload_n 2, 1) := by decide +kernel
theorem dX11_look_9 : decode cX11_look 9 = .ok (.invokestatic 326, 3) := by decide +kernel
theorem dX11_look_12 : decode cX11_look 12 = .ok (.ifCond .ne 5, 3) := by decide +kernel
theorem dX11_look_15 : decode cX11_look 15 = .ok (.iconst (-1), 1) := by decide +kernel
theorem dX11_look_16 : decode cX11_look 16 = .ok (.ireturn, 1) := by decide +kernel
theorem dX11_look_17 : decode cX11_look 17 = .ok (.aload_n 0, 1) := by decide +kernel
theorem dX11_look_18 : decode cX11_look 18 = .ok (.getfield 59, 3) := by decide +kernel
theorem dX11_look_21 : decode cX11_look 21 = .ok (.aload_n 0, 1) := by decide +kernel
theorem dX11_look_22 : decode cX11_look 22 = .ok (.getfield 31, 3) := by decide +kernel
theorem dX11_look_25 : decode cX11_look 25 = .ok (.aload_n 0, 1) := by decide +kernel
theorem dX11_look_26 : decode cX11_look 26 = .ok (.getfield 73, 3) := by decide +kernel
theorem dX11_look_29 : decode cX11_look 29 = .ok (.iload_n 1, 1) := by decide +kernel
theorem dX11_look_30 : decode cX11_look 30 = .ok (.invokevirtual 339, 3) := by decide +kernel
theorem dX11_look_33 : decode cX11_look 33 = .ok (.istore_n 3, 1) := by decide +kernel
theorem dX11_look_34 : decode cX11_look 34 = .ok (.iload_n 3, 1) := by decide +kernel
theorem dX11_look_35 : decode cX11_look 35 = .ok (.ifCond .ne 8, 3) := by decide +kernel
theorem dX11_look_38 : decode cX11_look 38 = .ok (.bipush (-2), 2) := by decide +kernel
theorem dX11_look_40 : decode cX11_look 40 = .ok (.goto 16, 3) := by decide +kernel
theorem dX11_look_43 : decode cX11_look 43 = .ok (.aload_n 0, 1) := by decide +kernel
theorem dX11_look_44 : decode cX11_look 44 = .ok (.getfield 31, 3) := by decide +kernel
theorem dX11_look_47 : decode cX11_look 47 = .ok (.aload_n 0, 1) := by decide +kernel
theorem dX11_look_48 : decode cX11_look 48 = .ok (.getfield 73, 3) := by decide +kernel
theorem dX11_look_51 : decode cX11_look 51 = .ok (.iload_n 3, 1) := by decide +kernel
theorem dX11_look_52 : decode cX11_look 52 = .ok (.iload_n 2, 1) := by decide +kernel
theorem dX11_look_53 : decode cX11_look 53 = .ok (.invokestatic 343, 3) := by decide +kernel
theorem dX11_look_56 : decode cX11_look 56 = .ok (.ireturn, 1) := by decide +kernel
theorem dX11_hold_0 : decode cX11_hold 0 = .ok (.aload_n 0, 1) := by decide +kernel
theorem dX11_hold_1 : decode cX11_hold 1 = .ok (.getfield 66, 3) := by decide +kernel
theorem dX11_hold_4 : decode cX11_hold 4 = .ok (.iload_n 1, 1) := by decide +kernel
theorem dX11_hold_5 : decode cX11_hold 5 = .ok (.aload_n 0, 1) := by decide +kernel
theorem dX11_hold_6 : decode cX11_hold 6 = .ok (.getfield 73, 3) := by decide +kernel
theorem dX11_hold_9 : decode cX11_hold 9 = .ok (.invokevirtual 347, 3) := by decide +kernel
theorem dX11_hold_12 : decode cX11_hold 12 = .ok (.ireturn, 1) := by decide +kernel
theorem dX11_restore_0 : decode cX11_restore 0 = .ok (.aload_n 0, 1) := by decide +kernel
theorem dX11_restore_1 : decode cX11_restore 1 = .ok (.getfield 52, 3) := by decide +kernel
theorem dX11_restore_4 : decode cX11_restore 4 = .ok (.iconst 1, 1) := by decide +kernel
theorem dX11_restore_5 : decode cX11_restore 5 = .ok (.putfield 227, 3) := by decide +kernel
theorem dX11_restore_8 : decode cX11_restore 8 = .ok (.aload_n 0, 1) := by decide +kernel
theorem dX11_restore_9 : decode cX11_restore 9 = .ok (.getfield 66, 3) := by decide +kernel
theorem dX11_restore_12 : decode cX11_restore 12 = .ok (.iload_n 1, 1) := by decide +kernel
theorem dX11_restore_13 : decode cX11_restore 13 = .ok (.aload_n 0, 1) := by decide +kernel
theorem dX11_restore_14 : decode cX11_restore 14 = .ok (.getfield 73, 3) := by decide +kernel
theorem dX11_restore_17 : decode cX11_restore 17 = .ok (.invokevirtual 351, 3) := by decide +kernel
theorem dX11_restore_20 : decode cX11_restore 20 = .ok (.ireturn, 1) := by decide +kernel
theorem dX11_count_0 : decode cX11_count 0 = .ok (.iload_n 1, 1) := by decide +kernel
theorem dX11_count_1 : decode cX11_count 1 = .ok (.tableswitch 322 0 20 #[99, 107, 115, 123, 131, 139, 162, 170, 178, 186, 194, 202, 213, 243, 254, 265, 273, 284, 295, 303, 314], 99) := by decide +kernel
theorem dX11_count_100 : decode cX11_count 100 = .ok (.aload_n 0, 1) := by decide +kernel
theorem dX11_count_101 : decode cX11_count 101 = .ok (.getfield 77, 3) := by decide +kernel
theorem dX11_count_104 : decode cX11_count 104 = .ok (.getfield 268, 3) := by decide +kernel
theorem dX11_count_107 : decode cX11_count 107 = .ok (.ireturn, 1) := by decide +kernel
theorem dX11_count_108 : decode cX11_count 108 = .ok (.aload_n 0, 1) := by decide +kernel
theorem dX11_count_109 : decode cX11_count 109 = .ok (.getfield 77, 3) := by decide +kernel
theorem dX11_count_112 : decode cX11_count 112 = .ok (.getfield 354, 3) := by decide +kernel
theorem dX11_count_115 : decode cX11_count 115 = .ok (.ireturn, 1) := by decide +kernel
theorem dX11_count_116 : decode cX11_count 116 = .ok (.aload_n 0, 1) := by decide +kernel
theorem dX11_count_117 : decode cX11_count 117 = .ok (.getfield 77, 3) := by decide +kernel
theorem dX11_count_120 : decode cX11_count 120 = .ok (.getfield 357, 3) := by decide +kernel
theorem dX11_count_123 : decode cX11_count 123 = .ok (.ireturn, 1) := by decide +kernel
theorem dX11_count_124 : decode cX11_count 124 = .ok (.aload_n 0, 1) := by decide +kernel
theorem dX11_count_125 : decode cX11_count 125 = .ok (.getfield 77, 3) := by decide +kernel
theorem dX11_count_128 : decode cX11_count 128 = .ok (.getfield 251, 3) := by decide +kernel
theorem dX11_count_131 : decode cX11_count 131 = .ok (.ireturn, 1) := by decide +kernel
theorem dX11_count_132 : decode cX11_count 132 = .ok (.aload_n 0, 1) := by decide +kernel
theorem dX11_count_133 : decode cX11_count 133 = .ok (.getfield 73, 3) := by decide +kernel
theorem dX11_count_136 : decode cX11_count 136 = .ok (.getfield 218, 3) := by decide +kernel
theorem dX11_count_139 : decode cX11_count 139 = .ok (.ireturn, 1) := by decide +kernel
theorem dX11_count_140 : decode cX11_count 140 = .ok (.aload_n 0, 1) := by decide +kernel
theorem dX11_count_141 : decode cX11_count 141 = .ok (.getfield 77, 3) := by decide +kernel
theorem dX11_count_144 : decode cX11_count 144 = .ok (.getfield 268, 3) := by decide +kernel
theorem dX11_count_147 : decode cX11_count 147 = .ok (.ifCond .ne 8, 3) := by decide +kernel
theorem dX11_count_150 : decode cX11_count 150 = .ok (.bipush (-2), 2) := by decide +kernel
theorem dX11_count_152 : decode cX11_count 152 = .ok (.goto 10, 3) := by decide +kernel
theorem dX11_count_155 : decode cX11_count 155 = .ok (.aload_n 0, 1) := by decide +kernel
theorem dX11_count_156 : decode cX11_count 156 = .ok (.getfield 73, 3) := by decide +kernel
theorem dX11_count_159 : decode cX11_count 159 = .ok (.getfield 114, 3) := by decide +kernel
theorem dX11_count_162 : decode cX11_count 162 = .ok (.ireturn, 1) := by decide +kernel
theorem dX11_count_163 : decode cX11_count 163 = .ok (.aload_n 0, 1) := by decide +kernel
theorem dX11_count_164 : decode cX11_count 164 = .ok (.getfield 73, 3) := by decide +kernel
theorem dX11_count_167 : decode cX11_count 167 = .ok (.invokevirtual 278, 3) := by decide +kernel
theorem dX11_count_170 : decode cX11_count 170 = .ok (.ireturn, 1) := by decide +kernel
theorem dX11_count_171 : decode cX11_count 171 = .ok (.aload_n 0, 1) := by decide +kernel
theorem dX11_count_172 : decode cX11_count 172 = .ok (.getfield 73, 3) := by decide +kernel
theorem dX11_count_175 : decode cX11_count 175 = .ok (.getfield 323, 3) := by decide +kernel
theorem dX11_count_178 : decode cX11_count 178 = .ok (.ireturn, 1) := by decide +kernel
theorem dX11_count_179 : decode cX11_count 179 = .ok (.aload_n 0, 1) := by decide +kernel
theorem dX11_count_180 : decode cX11_count 180 = .ok (.getfield 13, 3) := by decide +kernel
theorem dX11_count_183 : decode cX11_count 183 = .ok (.getfield 88, 3) := by decide +kernel
theorem dX11_count_186 : decode cX11_count 186 = .ok (.ireturn, 1) := by decide +kernel
theorem dX11_count_187 : decode cX11_count 187 = .ok (.aload_n 0, 1) := by decide +kernel
theorem dX11_count_188 : decode cX11_count 188 = .ok (.getfield 66, 3) := by decide +kernel
theorem dX11_count_191 : decode cX11_count 191 = .ok (.getfield 360, 3) := by decide +kernel
theorem dX11_count_194 : decode cX11_count 194 = .ok (.ireturn, 1) := by decide +kernel
theorem dX11_count_195 : decode cX11_count 195 = .ok (.aload_n 0, 1) := by decide +kernel
theorem dX11_count_196 : decode cX11_count 196 = .ok (.getfield 59, 3) := by decide +kernel
theorem dX11_count_199 : decode cX11_count 199 = .ok (.getfield 329, 3) := by decide +kernel
theorem dX11_count_202 : decode cX11_count 202 = .ok (.ireturn, 1) := by decide +kernel
theorem dX11_count_203 : decode cX11_count 203 = .ok (.aload_n 0, 1) := by decide +kernel
theorem dX11_count_204 : decode cX11_count 204 = .ok (.getfield 66, 3) := by decide +kernel
theorem dX11_count_207 : decode cX11_count 207 = .ok (.getfield 361, 3) := by decide +kernel
theorem dX11_count_210 : decode cX11_count 210 = .ok (.invokestatic 298, 3) := by decide +kernel
theorem dX11_count_213 : decode cX11_count 213 = .ok (.ireturn, 1) := by decide +kernel
theorem dX11_count_214 : decode cX11_count 214 = .ok (.aload_n 0, 1) := by decide +kernel
theorem dX11_count_215 : decode cX11_count 215 = .ok (.getfield 77, 3) := by decide +kernel
theorem dX11_count_218 : decode cX11_count 218 = .ok (.aload_n 0, 1) := by decide +kernel
theorem dX11_count_219 : decode cX11_count 219 = .ok (.getfield 73, 3) := by decide +kernel
theorem dX11_count_222 : decode cX11_count 222 = .ok (.getfield 218, 3) := by decide +kernel
theorem dX11_count_225 : decode cX11_count 225 = .ok (.aload_n 0, 1) := by decide +kernel
theorem dX11_count_226 : decode cX11_count 226 = .ok (.getfield 77, 3) := by decide +kernel
theorem dX11_count_229 : decode cX11_count 229 = .ok (.getfield 197, 3) := by decide +kernel
theorem dX11_count_232 : decode cX11_count 232 = .ok (.invokestatic 364, 3) := by decide +kernel
theorem dX11_count_235 : decode cX11_count 235 = .ok (.ifCond .eq 7, 3) := by decide +kernel
theorem dX11_count_238 : decode cX11_count 238 = .ok (.iconst 1, 1) := by decide +kernel
theorem dX11_count_239 : decode cX11_count 239 = .ok (.goto 4, 3) := by decide +kernel
theorem dX11_count_242 : decode cX11_count 242 = .ok (.iconst 0, 1) := by decide +kernel
theorem dX11_count_243 : decode cX11_count 243 = .ok (.ireturn, 1) := by decide +kernel
theorem dX11_count_244 : decode cX11_count 244 = .ok (.aload_n 0, 1) := by decide +kernel
theorem dX11_count_245 : decode cX11_count 245 = .ok (.getfield 73, 3) := by decide +kernel
theorem dX11_count_248 : decode cX11_count 248 = .ok (.getfield 151, 3) := by decide +kernel
theorem dX11_count_251 : decode cX11_count 251 = .ok (.invokestatic 368, 3) := by decide +kernel
theorem dX11_count_254 : decode cX11_count 254 = .ok (.ireturn, 1) := by decide +kernel
theorem dX11_count_255 : decode cX11_count 255 = .ok (.aload_n 0, 1) := by decide +kernel
theorem dX11_count_256 : decode cX11_count 256 = .ok (.getfield 73, 3) := by decide +kernel
theorem dX11_count_259 : decode cX11_count 259 = .ok (.getfield 177, 3) := by decide +kernel
theorem dX11_count_262 : decode cX11_count 262 = .ok (.invokestatic 368, 3) := by decide +kernel
theorem dX11_count_265 : decode cX11_count 265 = .ok (.ireturn, 1) := by decide +kernel
theorem dX11_count_266 : decode cX11_count 266 = .ok (.aload_n 0, 1) := by decide +kernel
theorem dX11_count_267 : decode cX11_count 267 = .ok (.getfield 73, 3) := by decide +kernel
theorem dX11_count_270 : decode cX11_count 270 = .ok (.invokevirtual 271, 3) := by decide +kernel
theorem dX11_count_273 : decode cX11_count 273 = .ok (.ireturn, 1) := by decide +kernel
theorem dX11_count_274 : decode cX11_count 274 = .ok (.aload_n 0, 1) := by decide +kernel
theorem dX11_count_275 : decode cX11_count 275 = .ok (.getfield 73, 3) := by decide +kernel
theorem dX11_count_278 : decode cX11_count 278 = .ok (.getfield 157, 3) := by decide +kernel
theorem dX11_count_281 : decode cX11_count 281 = .ok (.invokestatic 368, 3) := by decide +kernel
theorem dX11_count_284 : decode cX11_count 284 = .ok (.ireturn, 1) := by decide +kernel
theorem dX11_count_285 : decode cX11_count 285 = .ok (.aload_n 0, 1) := by decide +kernel
theorem dX11_count_286 : decode cX11_count 286 = .ok (.getfield 73, 3) := by decide +kernel
theorem dX11_count_289 : decode cX11_count 289 = .ok (.invokevirtual 278, 3) := by decide +kernel
theorem dX11_count_292 : decode cX11_count 292 = .ok (.invokestatic 298, 3) := by decide +kernel
theorem dX11_count_295 : decode cX11_count 295 = .ok (.ireturn, 1) := by decide +kernel
theorem dX11_count_296 : decode cX11_count 296 = .ok (.aload_n 0, 1) := by decide +kernel
theorem dX11_count_297 : decode cX11_count 297 = .ok (.getfield 73, 3) := by decide +kernel
theorem dX11_count_300 : decode cX11_count 300 = .ok (.getfield 163, 3) := by decide +kernel
theorem dX11_count_303 : decode cX11_count 303 = .ok (.ireturn, 1) := by decide +kernel
theorem dX11_count_304 : decode cX11_count 304 = .ok (.aload_n 0, 1) := by decide +kernel
theorem dX11_count_305 : decode cX11_count 305 = .ok (.getfield 73, 3) := by decide +kernel
theorem dX11_count_308 : decode cX11_count 308 = .ok (.getfield 323, 3) := by decide +kernel
theorem dX11_count_311 : decode cX11_count 311 = .ok (.invokestatic 298, 3) := by decide +kernel
theorem dX11_count_314 : decode cX11_count 314 = .ok (.ireturn, 1) := by decide +kernel
theorem dX11_count_315 : decode cX11_count 315 = .ok (.aload_n 0, 1) := by decide +kernel
theorem dX11_count_316 : decode cX11_count 316 = .ok (.getfield 73, 3) := by decide +kernel
theorem dX11_count_319 : decode cX11_count 319 = .ok (.invokevirtual 372, 3) := by decide +kernel
theorem dX11_count_322 : decode cX11_count 322 = .ok (.ireturn, 1) := by decide +kernel
theorem dX11_count_323 : decode cX11_count 323 = .ok (.iconst (-1), 1) := by decide +kernel
theorem dX11_count_324 : decode cX11_count 324 = .ok (.ireturn, 1) := by decide +kernel
theorem dX11_isCorner_0 : decode cX11_isCorner 0 = .ok (.iload_n 1, 1) := by decide +kernel
theorem dX11_isCorner_1 : decode cX11_isCorner 1 = .ok (.ifCond .lt 18, 3) := by decide +kernel
theorem dX11_isCorner_4 : decode cX11_isCorner 4 = .ok (.iload_n 1, 1) := by decide +kernel
theorem dX11_isCorner_5 : decode cX11_isCorner 5 = .ok (.aload_n 0, 1) := by decide +kernel
theorem dX11_isCorner_6 : decode cX11_isCorner 6 = .ok (.getfield 77, 3) := by decide +kernel
theorem dX11_isCorner_9 : decode cX11_isCorner 9 = .ok (.getfield 268, 3) := by decide +kernel
theorem dX11_isCorner_12 : decode cX11_isCorner 12 = .ok (.if_icmp .ge 7, 3) := by decide +kernel
theorem dX11_isCorner_15 : decode cX11_isCorner 15 = .ok (.iconst 1, 1) := by decide +kernel
theorem dX11_isCorner_16 : decode cX11_isCorner 16 = .ok (.goto 4, 3) := by decide +kernel
theorem dX11_isCorner_19 : decode cX11_isCorner 19 = .ok (.iconst 0, 1) := by decide +kernel
theorem dX11_isCorner_20 : decode cX11_isCorner 20 = .ok (.ireturn, 1) := by decide +kernel
theorem dX11_isStreet_0 : decode cX11_isStreet 0 = .ok (.iload_n 1, 1) := by decide +kernel
theorem dX11_isStreet_1 : decode cX11_isStreet 1 = .ok (.ifCond .lt 18, 3) := by decide +kernel
theorem dX11_isStreet_4 : decode cX11_isStreet 4 = .ok (.iload_n 1, 1) := by decide +kernel
theorem dX11_isStreet_5 : decode cX11_isStreet 5 = .ok (.aload_n 0, 1) := by decide +kernel
theorem dX11_isStreet_6 : decode cX11_isStreet 6 = .ok (.getfield 77, 3) := by decide +kernel
theorem dX11_isStreet_9 : decode cX11_isStreet 9 = .ok (.getfield 354, 3) := by decide +kernel
theorem dX11_isStreet_12 : decode cX11_isStreet 12 = .ok (.if_icmp .ge 7, 3) := by decide +kernel
theorem dX11_isStreet_15 : decode cX11_isStreet 15 = .ok (.iconst 1, 1) := by decide +kernel
theorem dX11_isStreet_16 : decode cX11_isStreet 16 = .ok (.goto 4, 3) := by decide +kernel
theorem dX11_isStreet_19 : decode cX11_isStreet 19 = .ok (.iconst 0, 1) := by decide +kernel
theorem dX11_isStreet_20 : decode cX11_isStreet 20 = .ok (.ireturn, 1) := by decide +kernel
theorem dX11_isYoung_0 : decode cX11_isYoung 0 = .ok (.iload_n 1, 1) := by decide +kernel
theorem dX11_isYoung_1 : decode cX11_isYoung 1 = .ok (.ifCond .lt 18, 3) := by decide +kernel
theorem dX11_isYoung_4 : decode cX11_isYoung 4 = .ok (.iload_n 1, 1) := by decide +kernel
theorem dX11_isYoung_5 : decode cX11_isYoung 5 = .ok (.aload_n 0, 1) := by decide +kernel
theorem dX11_isYoung_6 : decode cX11_isYoung 6 = .ok (.getfield 77, 3) := by decide +kernel
theorem dX11_isYoung_9 : decode cX11_isYoung 9 = .ok (.getfield 357, 3) := by decide +kernel
theorem dX11_isYoung_12 : decode cX11_isYoung 12 = .ok (.if_icmp .ge 7, 3) := by decide +kernel
theorem dX11_isYoung_15 : decode cX11_isYoung 15 = .ok (.iconst 1, 1) := by decide +kernel
theorem dX11_isYoung_16 : decode cX11_isYoung 16 = .ok (.goto 4, 3) := by decide +kernel
theorem dX11_isYoung_19 : decode cX11_isYoung 19 = .ok (.iconst 0, 1) := by decide +kernel
theorem dX11_isYoung_20 : decode cX11_isYoung 20 = .ok (.ireturn, 1) := by decide +kernel
theorem dX11_isOut_0 : decode cX11_isOut 0 = .ok (.aload_n 0, 1) := by decide +kernel
theorem dX11_isOut_1 : decode cX11_isOut 1 = .ok (.iload_n 1, 1) := by decide +kernel
theorem dX11_isOut_2 : decode cX11_isOut 2 = .ok (.invokevirtual 139, 3) := by decide +kernel
theorem dX11_isOut_5 : decode cX11_isOut 5 = .ok (.ifCond .eq 18, 3) := by decide +kernel
theorem dX11_isOut_8 : decode cX11_isOut 8 = .ok (.aload_n 0, 1) := by decide +kernel
theorem dX11_isOut_9 : decode cX11_isOut 9 = .ok (.getfield 73, 3) := by decide +kernel
theorem dX11_isOut_12 : decode cX11_isOut 12 = .ok (.iload_n 1, 1) := by decide +kernel
theorem dX11_isOut_13 : decode cX11_isOut 13 = .ok (.invokevirtual 154, 3) := by decide +kernel
theorem dX11_isOut_16 : decode cX11_isOut 16 = .ok (.ifCond .ne 7, 3) := by decide +kernel
theorem dX11_isOut_19 : decode cX11_isOut 19 = .ok (.iconst 1, 1) := by decide +kernel
theorem dX11_isOut_20 : decode cX11_isOut 20 = .ok (.goto 4, 3) := by decide +kernel
theorem dX11_isOut_23 : decode cX11_isOut 23 = .ok (.iconst 0, 1) := by decide +kernel
theorem dX11_isOut_24 : decode cX11_isOut 24 = .ok (.ireturn, 1) := by decide +kernel
theorem dX11_isWord_0 : decode cX11_isWord 0 = .ok (.iload_n 1, 1) := by decide +kernel
theorem dX11_isWord_1 : decode cX11_isWord 1 = .ok (.ifCond .lt 18, 3) := by decide +kernel
theorem dX11_isWord_4 : decode cX11_isWord 4 = .ok (.iload_n 1, 1) := by decide +kernel
theorem dX11_isWord_5 : decode cX11_isWord 5 = .ok (.aload_n 0, 1) := by decide +kernel
theorem dX11_isWord_6 : decode cX11_isWord 6 = .ok (.getfield 77, 3) := by decide +kernel
theorem dX11_isWord_9 : decode cX11_isWord 9 = .ok (.getfield 251, 3) := by decide +kernel
theorem dX11_isWord_12 : decode cX11_isWord 12 = .ok (.if_icmp .ge 7, 3) := by decide +kernel
theorem dX11_isWord_15 : decode cX11_isWord 15 = .ok (.iconst 1, 1) := by decide +kernel
theorem dX11_isWord_16 : decode cX11_isWord 16 = .ok (.goto 4, 3) := by decide +kernel
theorem dX11_isWord_19 : decode cX11_isWord 19 = .ok (.iconst 0, 1) := by decide +kernel
theorem dX11_isWord_20 : decode cX11_isWord 20 = .ok (.ireturn, 1) := by decide +kernel
theorem dX11_isKnown_0 : decode cX11_isKnown 0 = .ok (.iload_n 1, 1) := by decide +kernel
theorem dX11_isKnown_1 : decode cX11_isKnown 1 = .ok (.ifCond .lt 18, 3) := by decide +kernel
theorem dX11_isKnown_4 : decode cX11_isKnown 4 = .ok (.iload_n 1, 1) := by decide +kernel
theorem dX11_isKnown_5 : decode cX11_isKnown 5 = .ok (.aload_n 0, 1) := by decide +kernel
theorem dX11_isKnown_6 : decode cX11_isKnown 6 = .ok (.getfield 59, 3) := by decide +kernel
theorem dX11_isKnown_9 : decode cX11_isKnown 9 = .ok (.getfield 329, 3) := by decide +kernel
theorem dX11_isKnown_12 : decode cX11_isKnown 12 = .ok (.if_icmp .gt 7, 3) := by decide +kernel
theorem dX11_isKnown_15 : decode cX11_isKnown 15 = .ok (.iconst 1, 1) := by decide +kernel
theorem dX11_isKnown_16 : decode cX11_isKnown 16 = .ok (.goto 4, 3) := by decide +kernel
theorem dX11_isKnown_19 : decode cX11_isKnown 19 = .ok (.iconst 0, 1) := by decide +kernel
theorem dX11_isKnown_20 : decode cX11_isKnown 20 = .ok (.ireturn, 1) := by decide +kernel
theorem dX11_isGlow_0 : decode cX11_isGlow 0 = .ok (.iload_n 0, 1) := by decide +kernel
theorem dX11_isGlow_1 : decode cX11_isGlow 1 = .ok (.ifCond .lt 14, 3) := by decide +kernel
theorem dX11_isGlow_4 : decode cX11_isGlow 4 = .ok (.iload_n 0, 1) := by decide +kernel
theorem dX11_isGlow_5 : decode cX11_isGlow 5 = .ok (.sipush 999, 3) := by decide +kernel
theorem dX11_isGlow_8 : decode cX11_isGlow 8 = .ok (.if_icmp .gt 7, 3) := by decide +kernel
theorem dX11_isGlow_11 : decode cX11_isGlow 11 = .ok (.iconst 1, 1) := by decide +kernel
theorem dX11_isGlow_12 : decode cX11_isGlow 12 = .ok (.goto 4, 3) := by decide +kernel
theorem dX11_isGlow_15 : decode cX11_isGlow 15 = .ok (.iconst 0, 1) := by decide +kernel
theorem dX11_isGlow_16 : decode cX11_isGlow 16 = .ok (.ireturn, 1) := by decide +kernel
theorem dX11_areHours_0 : decode cX11_areHours 0 = .ok (.iload_n 0, 1) := by decide +kernel
theorem dX11_areHours_1 : decode cX11_areHours 1 = .ok (.ifCond .lt 13, 3) := by decide +kernel
theorem dX11_areHours_4 : decode cX11_areHours 4 = .ok (.iload_n 0, 1) := by decide +kernel
theorem dX11_areHours_5 : decode cX11_areHours 5 = .ok (.bipush 72, 2) := by decide +kernel
theorem dX11_areHours_7 : decode cX11_areHours 7 = .ok (.if_icmp .gt 7, 3) := by decide +kernel
theorem dX11_areHours_10 : decode cX11_areHours 10 = .ok (.iconst 1, 1) := by decide +kernel
theorem dX11_areHours_11 : decode cX11_areHours 11 = .ok (.goto 4, 3) := by decide +kernel
theorem dX11_areHours_14 : decode cX11_areHours 14 = .ok (.iconst 0, 1) := by decide +kernel
theorem dX11_areHours_15 : decode cX11_areHours 15 = .ok (.ireturn, 1) := by decide +kernel
theorem dX11_isEither_0 : decode cX11_isEither 0 = .ok (.iload_n 0, 1) := by decide +kernel
theorem dX11_isEither_1 : decode cX11_isEither 1 = .ok (.ifCond .eq 8, 3) := by decide +kernel
theorem dX11_isEither_4 : decode cX11_isEither 4 = .ok (.iload_n 0, 1) := by decide +kernel
theorem dX11_isEither_5 : decode cX11_isEither 5 = .ok (.iconst 1, 1) := by decide +kernel
theorem dX11_isEither_6 : decode cX11_isEither 6 = .ok (.if_icmp .ne 7, 3) := by decide +kernel
theorem dX11_isEither_9 : decode cX11_isEither 9 = .ok (.iconst 1, 1) := by decide +kernel
theorem dX11_isEither_10 : decode cX11_isEither 10 = .ok (.goto 4, 3) := by decide +kernel
theorem dX11_isEither_13 : decode cX11_isEither 13 = .ok (.iconst 0, 1) := by decide +kernel
theorem dX11_isEither_14 : decode cX11_isEither 14 = .ok (.ireturn, 1) := by decide +kernel
theorem dX11_sumOf_0 : decode cX11_sumOf 0 = .ok (.iconst 0, 1) := by decide +kernel
theorem dX11_sumOf_1 : decode cX11_sumOf 1 = .ok (.istore_n 1, 1) := by decide +kernel
theorem dX11_sumOf_2 : decode cX11_sumOf 2 = .ok (.iconst 0, 1) := by decide +kernel
theorem dX11_sumOf_3 : decode cX11_sumOf 3 = .ok (.istore_n 2, 1) := by decide +kernel
theorem dX11_sumOf_4 : decode cX11_sumOf 4 = .ok (.iload_n 2, 1) := by decide +kernel
theorem dX11_sumOf_5 : decode cX11_sumOf 5 = .ok (.aload_n 0, 1) := by decide +kernel
theorem dX11_sumOf_6 : decode cX11_sumOf 6 = .ok (.arraylength, 1) := by decide +kernel
theorem dX11_sumOf_7 : decode cX11_sumOf 7 = .ok (.if_icmp .ge 15, 3) := by decide +kernel
theorem dX11_sumOf_10 : decode cX11_sumOf 10 = .ok (.iload_n 1, 1) := by decide +kernel
theorem dX11_sumOf_11 : decode cX11_sumOf 11 = .ok (.aload_n 0, 1) := by decide +kernel
theorem dX11_sumOf_12 : decode cX11_sumOf 12 = .ok (.iload_n 2, 1) := by decide +kernel
theorem dX11_sumOf_13 : decode cX11_sumOf 13 = .ok (.iaload, 1) := by decide +kernel
theorem dX11_sumOf_14 : decode cX11_sumOf 14 = .ok (.iadd, 1) := by decide +kernel
theorem dX11_sumOf_15 : decode cX11_sumOf 15 = .ok (.istore_n 1, 1) := by decide +kernel
theorem dX11_sumOf_16 : decode cX11_sumOf 16 = .ok (.iinc 2 1, 3) := by decide +kernel
theorem dX11_sumOf_19 : decode cX11_sumOf 19 = .ok (.goto (-15), 3) := by decide +kernel
theorem dX11_sumOf_22 : decode cX11_sumOf 22 = .ok (.iload_n 1, 1) := by decide +kernel
theorem dX11_sumOf_23 : decode cX11_sumOf 23 = .ok (.ireturn, 1) := by decide +kernel
theorem dX11_beginThing_0 : decode cX11_beginThing 0 = .ok (.aload_n 0, 1) := by decide +kernel
theorem dX11_beginThing_1 : decode cX11_beginThing 1 = .ok (.getfield 66, 3) := by decide +kernel
theorem dX11_beginThing_4 : decode cX11_beginThing 4 = .ok (.aload_n 0, 1) := by decide +kernel
theorem dX11_beginThing_5 : decode cX11_beginThing 5 = .ok (.getfield 73, 3) := by decide +kernel
theorem dX11_beginThing_8 : decode cX11_beginThing 8 = .ok (.invokevirtual 375, 3) := by decide +kernel
theorem dX11_beginThing_11 : decode cX11_beginThing 11 = .ok (.aload_n 0, 1) := by decide +kernel
theorem dX11_beginThing_12 : decode cX11_beginThing 12 = .ok (.getfield 52, 3) := by decide +kernel
theorem dX11_beginThing_15 : decode cX11_beginThing 15 = .ok (.iconst 1, 1) := by decide +kernel
theorem dX11_beginThing_16 : decode cX11_beginThing 16 = .ok (.putfield 227, 3) := by decide +kernel
theorem dX11_beginThing_19 : decode cX11_beginThing 19 = .ok (.return_, 1) := by decide +kernel
theorem dX11_settle_0 : decode cX11_settle 0 = .ok (.aload_n 0, 1) := by decide +kernel
theorem dX11_settle_1 : decode cX11_settle 1 = .ok (.getfield 77, 3) := by decide +kernel
theorem dX11_settle_4 : decode cX11_settle 4 = .ok (.astore_n 1, 1) := by decide +kernel
theorem dX11_settle_5 : decode cX11_settle 5 = .ok (.aload_n 0, 1) := by decide +kernel
theorem dX11_settle_6 : decode cX11_settle 6 = .ok (.aload_n 0, 1) := by decide +kernel
theorem dX11_settle_7 : decode cX11_settle 7 = .ok (.getfield 81, 3) := by decide +kernel
theorem dX11_settle_10 : decode cX11_settle 10 = .ok (.putfield 77, 3) := by decide +kernel
theorem dX11_settle_13 : decode cX11_settle 13 = .ok (.aload_n 0, 1) := by decide +kernel
theorem dX11_settle_14 : decode cX11_settle 14 = .ok (.aload_n 1, 1) := by decide +kernel
theorem dX11_settle_15 : decode cX11_settle 15 = .ok (.putfield 81, 3) := by decide +kernel
theorem dX11_settle_18 : decode cX11_settle 18 = .ok (.aload_n 0, 1) := by decide +kernel
theorem dX11_settle_19 : decode cX11_settle 19 = .ok (.getfield 73, 3) := by decide +kernel
theorem dX11_settle_22 : decode cX11_settle 22 = .ok (.aload_n 0, 1) := by decide +kernel
theorem dX11_settle_23 : decode cX11_settle 23 = .ok (.getfield 77, 3) := by decide +kernel
theorem dX11_settle_26 : decode cX11_settle 26 = .ok (.invokevirtual 377, 3) := by decide +kernel
theorem dX11_settle_29 : decode cX11_settle 29 = .ok (.aload_n 0, 1) := by decide +kernel
theorem dX11_settle_30 : decode cX11_settle 30 = .ok (.getfield 66, 3) := by decide +kernel
theorem dX11_settle_33 : decode cX11_settle 33 = .ok (.invokevirtual 380, 3) := by decide +kernel
theorem dX11_settle_36 : decode cX11_settle 36 = .ok (.aload_n 0, 1) := by decide +kernel
theorem dX11_settle_37 : decode cX11_settle 37 = .ok (.getfield 59, 3) := by decide +kernel
theorem dX11_settle_40 : decode cX11_settle 40 = .ok (.iconst 0, 1) := by decide +kernel
theorem dX11_settle_41 : decode cX11_settle 41 = .ok (.putfield 329, 3) := by decide +kernel
theorem dX11_settle_44 : decode cX11_settle 44 = .ok (.aload_n 0, 1) := by decide +kernel
theorem dX11_settle_45 : decode cX11_settle 45 = .ok (.getfield 52, 3) := by decide +kernel
theorem dX11_settle_48 : decode cX11_settle 48 = .ok (.iconst 1, 1) := by decide +kernel
theorem dX11_settle_49 : decode cX11_settle 49 = .ok (.putfield 227, 3) := by decide +kernel
theorem dX11_settle_52 : decode cX11_settle 52 = .ok (.return_, 1) := by decide +kernel
theorem dX12_init_0 : decode cX12_init 0 = .ok (.aload_n 0, 1) := by decide +kernel
theorem dX12_init_1 : decode cX12_init 1 = .ok (.invokespecial 7, 3) := by decide +kernel
theorem dX12_init_4 : decode cX12_init 4 = .ok (.aload_n 0, 1) := by decide +kernel
theorem dX12_init_5 : decode cX12_init 5 = .ok (.sipush 2000, 3) := by decide +kernel
theorem dX12_init_8 : decode cX12_init 8 = .ok (.newarray .byte, 2) := by decide +kernel
theorem dX12_init_10 : decode cX12_init 10 = .ok (.putfield 13, 3) := by decide +kernel
theorem dX12_init_13 : decode cX12_init 13 = .ok (.aload_n 0, 1) := by decide +kernel
theorem dX12_init_14 : decode cX12_init 14 = .ok (.sipush 2000, 3) := by decide +kernel
theorem dX12_init_17 : decode cX12_init 17 = .ok (.newarray .byte, 2) := by decide +kernel
theorem dX12_init_19 : decode cX12_init 19 = .ok (.putfield 17, 3) := by decide +kernel
theorem dX12_init_22 : decode cX12_init 22 = .ok (.aload_n 0, 1) := by decide +kernel
theorem dX12_init_23 : decode cX12_init 23 = .ok (.sipush 403, 3) := by decide +kernel
theorem dX12_init_26 : decode cX12_init 26 = .ok (.newarray .int, 2) := by decide +kernel
theorem dX12_init_28 : decode cX12_init 28 = .ok (.putfield 20, 3) := by decide +kernel
theorem dX12_init_31 : decode cX12_init 31 = .ok (.aload_n 0, 1) := by decide +kernel
theorem dX12_init_32 : decode cX12_init 32 = .ok (.sipush 403, 3) := by decide +kernel
theorem dX12_init_35 : decode cX12_init 35 = .ok (.newarray .int, 2) := by decide +kernel
theorem dX12_init_37 : decode cX12_init 37 = .ok (.putfield 24, 3) := by decide +kernel
theorem dX12_init_40 : decode cX12_init 40 = .ok (.aload_n 0, 1) := by decide +kernel
theorem dX12_init_41 : decode cX12_init 41 = .ok (.sipush 403, 3) := by decide +kernel
theorem dX12_init_44 : decode cX12_init 44 = .ok (.newarray .int, 2) := by decide +kernel
theorem dX12_init_46 : decode cX12_init 46 = .ok (.putfield 27, 3) := by decide +kernel
theorem dX12_init_49 : decode cX12_init 49 = .ok (.aload_n 0, 1) := by decide +kernel
theorem dX12_init_50 : decode cX12_init 50 = .ok (.sipush 403, 3) := by decide +kernel
theorem dX12_init_53 : decode cX12_init 53 = .ok (.newarray .long, 2) := by decide +kernel
theorem dX12_init_55 : decode cX12_init 55 = .ok (.putfield 30, 3) := by decide +kernel
theorem dX12_init_58 : decode cX12_init 58 = .ok (.aload_n 0, 1) := by decide +kernel
theorem dX12_init_59 : decode cX12_init 59 = .ok (.bipush 23, 2) := by decide +kernel
theorem dX12_init_61 : decode cX12_init 61 = .ok (.newarray .long, 2) := by decide +kernel
theorem dX12_init_63 : decode cX12_init 63 = .ok (.putfield 34, 3) := by decide +kernel
theorem dX12_init_66 : decode cX12_init 66 = .ok (.aload_n 0, 1) := by decide +kernel
theorem dX12_init_67 : decode cX12_init 67 = .ok (.iconst (-1), 1) := by decide +kernel
theorem dX12_init_68 : decode cX12_init 68 = .ok (.putfield 37, 3) := by decide +kernel
theorem dX12_init_71 : decode cX12_init 71 = .ok (.aload_n 0, 1) := by decide +kernel
theorem dX12_init_72 : decode cX12_init 72 = .ok (.bipush 18, 2) := by decide +kernel
theorem dX12_init_74 : decode cX12_init 74 = .ok (.newarray .long, 2) := by decide +kernel
theorem dX12_init_76 : decode cX12_init 76 = .ok (.putfield 40, 3) := by decide +kernel
theorem dX12_init_79 : decode cX12_init 79 = .ok (.aload_n 0, 1) := by decide +kernel
theorem dX12_init_80 : decode cX12_init 80 = .ok (.bipush 18, 2) := by decide +kernel
theorem dX12_init_82 : decode cX12_init 82 = .ok (.newarray .int, 2) := by decide +kernel
theorem dX12_init_84 : decode cX12_init 84 = .ok (.putfield 43, 3) := by decide +kernel
theorem dX12_init_87 : decode cX12_init 87 = .ok (.aload_n 0, 1) := by decide +kernel
theorem dX12_init_88 : decode cX12_init 88 = .ok (.iconst 2, 1) := by decide +kernel
theorem dX12_init_89 : decode cX12_init 89 = .ok (.newarray .int, 2) := by decide +kernel
theorem dX12_init_91 : decode cX12_init 91 = .ok (.putfield 46, 3) := by decide +kernel
theorem dX12_init_94 : decode cX12_init 94 = .ok (.aload_n 0, 1) := by decide +kernel
theorem dX12_init_95 : decode cX12_init 95 = .ok (.iconst 2, 1) := by decide +kernel
theorem dX12_init_96 : decode cX12_init 96 = .ok (.newarray .int, 2) := by decide +kernel
theorem dX12_init_98 : decode cX12_init 98 = .ok (.putfield 49, 3) := by decide +kernel
theorem dX12_init_101 : decode cX12_init 101 = .ok (.aload_n 0, 1) := by decide +kernel
theorem dX12_init_102 : decode cX12_init 102 = .ok (.bipush 20, 2) := by decide +kernel
theorem dX12_init_104 : decode cX12_init 104 = .ok (.newarray .int, 2) := by decide +kernel
theorem dX12_init_106 : decode cX12_init 106 = .ok (.putfield 52, 3) := by decide +kernel
theorem dX12_init_109 : decode cX12_init 109 = .ok (.aload_n 0, 1) := by decide +kernel
theorem dX12_init_110 : decode cX12_init 110 = .ok (.bipush 20, 2) := by decide +kernel
theorem dX12_init_112 : decode cX12_init 112 = .ok (.newarray .int, 2) := by decide +kernel
theorem dX12_init_114 : decode cX12_init 114 = .ok (.putfield 55, 3) := by decide +kernel
theorem dX12_init_117 : decode cX12_init 117 = .ok (.aload_n 0, 1) := by decide +kernel
theorem dX12_init_118 : decode cX12_init 118 = .ok (.bipush 20, 2) := by decide +kernel
theorem dX12_init_120 : decode cX12_init 120 = .ok (.newarray .int, 2) := by decide +kernel
theorem dX12_init_122 : decode cX12_init 122 = .ok (.putfield 58, 3) := by decide +kernel
theorem dX12_init_125 : decode cX12_init 125 = .ok (.aload_n 0, 1) := by decide +kernel
theorem dX12_init_126 : decode cX12_init 126 = .ok (.iconst 2, 1) := by decide +kernel
theorem dX12_init_127 : decode cX12_init 127 = .ok (.newarray .int, 2) := by decide +kernel
theorem dX12_init_129 : decode cX12_init 129 = .ok (.putfield 61, 3) := by decide +kernel
theorem dX12_init_132 : decode cX12_init 132 = .ok (.aload_n 0, 1) := by decide +kernel
theorem dX12_init_133 : decode cX12_init 133 = .ok (.bipush 12, 2) := by decide +kernel
theorem dX12_init_135 : decode cX12_init 135 = .ok (.newarray .int, 2) := by decide +kernel
theorem dX12_init_137 : decode cX12_init 137 = .ok (.putfield 64, 3) := by decide +kernel
theorem dX12_init_140 : decode cX12_init 140 = .ok (.aload_n 0, 1) := by decide +kernel
theorem dX12_init_141 : decode cX12_init 141 = .ok (.bipush 12, 2) := by decide +kernel
theorem dX12_init_143 : decode cX12_init 143 = .ok (.newarray .int, 2) := by decide +kernel
theorem dX12_init_145 : decode cX12_init 145 = .ok (.putfield 67, 3) := by decide +kernel
theorem dX12_init_148 : decode cX12_init 148 = .ok (.aload_n 0, 1) := by decide +kernel
theorem dX12_init_149 : decode cX12_init 149 = .ok (.bipush 12, 2) := by decide +kernel
theorem dX12_init_151 : decode cX12_init 151 = .ok (.newarray .int, 2) := by decide +kernel
theorem dX12_init_153 : decode cX12_init 153 = .ok (.putfield 70, 3) := by decide +kernel
theorem dX12_init_156 : decode cX12_init 156 = .ok (.aload_n 0, 1) := by decide +kernel
theorem dX12_init_157 : decode cX12_init 157 = .ok (.iconst 2, 1) := by decide +kernel
theorem dX12_init_158 : decode cX12_init 158 = .ok (.newarray .int, 2) := by decide +kernel
theorem dX12_init_160 : decode cX12_init 160 = .ok (.putfield 73, 3) := by decide +kernel
theorem dX12_init_163 : decode cX12_init 163 = .ok (.aload_n 0, 1) := by decide +kernel
theorem dX12_init_164 : decode cX12_init 164 = .ok (.bipush 10, 2) := by decide +kernel
theorem dX12_init_166 : decode cX12_init 166 = .ok (.newarray .int, 2) := by decide +kernel
theorem dX12_init_168 : decode cX12_init 168 = .ok (.putfield 76, 3) := by decide +kernel
theorem dX12_init_171 : decode cX12_init 171 = .ok (.aload_n 0, 1) := by decide +kernel
theorem dX12_init_172 : decode cX12_init 172 = .ok (.iconst 2, 1) := by decide +kernel
theorem dX12_init_173 : decode cX12_init 173 = .ok (.newarray .int, 2) := by decide +kernel
theorem dX12_init_175 : decode cX12_init 175 = .ok (.putfield 79, 3) := by decide +kernel
theorem dX12_init_178 : decode cX12_init 178 = .ok (.aload_n 0, 1) := by decide +kernel
theorem dX12_init_179 : decode cX12_init 179 = .ok (.iconst 2, 1) := by decide +kernel
theorem dX12_init_180 : decode cX12_init 180 = .ok (.newarray .int, 2) := by decide +kernel
theorem dX12_init_182 : decode cX12_init 182 = .ok (.putfield 82, 3) := by decide +kernel
theorem dX12_init_185 : decode cX12_init 185 = .ok (.aload_n 0, 1) := by decide +kernel
theorem dX12_init_186 : decode cX12_init 186 = .ok (.iconst 2, 1) := by decide +kernel
theorem dX12_init_187 : decode cX12_init 187 = .ok (.newarray .int, 2) := by decide +kernel
theorem dX12_init_189 : decode cX12_init 189 = .ok (.putfield 85, 3) := by decide +kernel
theorem dX12_init_192 : decode cX12_init 192 = .ok (.aload_n 0, 1) := by decide +kernel
theorem dX12_init_193 : decode cX12_init 193 = .ok (.bipush 8, 2) := by decide +kernel
theorem dX12_init_195 : decode cX12_init 195 = .ok (.newarray .int, 2) := by decide +kernel
theorem dX12_init_197 : decode cX12_init 197 = .ok (.putfield 88, 3) := by decide +kernel
theorem dX12_init_200 : decode cX12_init 200 = .ok (.aload_n 0, 1) := by decide +kernel
theorem dX12_init_201 : decode cX12_init 201 = .ok (.bipush 8, 2) := by decide +kernel
theorem dX12_init_203 : decode cX12_init 203 = .ok (.newarray .int, 2) := by decide +kernel
theorem dX12_init_205 : decode cX12_init 205 = .ok (.putfield 91, 3) := by decide +kernel
theorem dX12_init_208 : decode cX12_init 208 = .ok (.aload_n 0, 1) := by decide +kernel
theorem dX12_init_209 : decode cX12_init 209 = .ok (.sipush 260, 3) := by decide +kernel
theorem dX12_init_212 : decode cX12_init 212 = .ok (.newarray .boolean, 2) := by decide +kernel
theorem dX12_init_214 : decode cX12_init 214 = .ok (.putfield 94, 3) := by decide +kernel
theorem dX12_init_217 : decode cX12_init 217 = .ok (.aload_n 0, 1) := by decide +kernel
theorem dX12_init_218 : decode cX12_init 218 = .ok (.sipush 260, 3) := by decide +kernel
theorem dX12_init_221 : decode cX12_init 221 = .ok (.newarray .int, 2) := by decide +kernel
theorem dX12_init_223 : decode cX12_init 223 = .ok (.putfield 98, 3) := by decide +kernel
theorem dX12_init_226 : decode cX12_init 226 = .ok (.aload_n 0, 1) := by decide +kernel
theorem dX12_init_227 : decode cX12_init 227 = .ok (.sipush 260, 3) := by decide +kernel
theorem dX12_init_230 : decode cX12_init 230 = .ok (.newarray .int, 2) := by decide +kernel
theorem dX12_init_232 : decode cX12_init 232 = .ok (.putfield 101, 3) := by decide +kernel
theorem dX12_init_235 : decode cX12_init 235 = .ok (.aload_n 0, 1) := by decide +kernel
theorem dX12_init_236 : decode cX12_init 236 = .ok (.sipush 260, 3) := by decide +kernel
theorem dX12_init_239 : decode cX12_init 239 = .ok (.newarray .int, 2) := by decide +kernel
theorem dX12_init_241 : decode cX12_init 241 = .ok (.putfield 104, 3) := by decide +kernel
theorem dX12_init_244 : decode cX12_init 244 = .ok (.aload_n 0, 1) := by decide +kernel
theorem dX12_init_245 : decode cX12_init 245 = .ok (.sipush 260, 3) := by decide +kernel
theorem dX12_init_248 : decode cX12_init 248 = .ok (.newarray .int, 2) := by decide +kernel
theorem dX12_init_250 : decode cX12_init 250 = .ok (.putfield 107, 3) := by decide +kernel
theorem dX12_init_253 : decode cX12_init 253 = .ok (.aload_n 0, 1) := by decide +kernel
theorem dX12_init_254 : decode cX12_init 254 = .ok (.sipush 840, 3) := by decide +kernel
theorem dX12_init_257 : decode cX12_init 257 = .ok (.newarray .int, 2) := by decide +kernel
theorem dX12_init_259 : decode cX12_init 259 = .ok (.putfield 110, 3) := by decide +kernel
theorem dX12_init_262 : decode cX12_init 262 = .ok (.aload_n 0, 1) := by decide +kernel
theorem dX12_init_263 : decode cX12_init 263 = .ok (.sipush 840, 3) := by decide +kernel
theorem dX12_init_266 : decode cX12_init 266 = .ok (.newarray .int, 2) := by decide +kernel
theorem dX12_init_268 : decode cX12_init 268 = .ok (.putfield 113, 3) := by decide +kernel
theorem dX12_init_271 : decode cX12_init 271 = .ok (.aload_n 0, 1) := by decide +kernel
theorem dX12_init_272 : decode cX12_init 272 = .ok (.bipush 64, 2) := by decide +kernel
theorem dX12_init_274 : decode cX12_init 274 = .ok (.newarray .int, 2) := by decide +kernel
theorem dX12_init_276 : decode cX12_init 276 = .ok (.putfield 116, 3) := by decide +kernel
theorem dX12_init_279 : decode cX12_init 279 = .ok (.aload_n 0, 1) := by decide +kernel
theorem dX12_init_280 : decode cX12_init 280 = .ok (.bipush 9, 2) := by decide +kernel
theorem dX12_init_282 : decode cX12_init 282 = .ok (.newarray .int, 2) := by decide +kernel
theorem dX12_init_284 : decode cX12_init 284 = .ok (.putfield 119, 3) := by decide +kernel
theorem dX12_init_287 : decode cX12_init 287 = .ok (.aload_n 0, 1) := by decide +kernel
theorem dX12_init_288 : decode cX12_init 288 = .ok (.sipush 400, 3) := by decide +kernel
theorem dX12_init_291 : decode cX12_init 291 = .ok (.newarray .int, 2) := by decide +kernel
theorem dX12_init_293 : decode cX12_init 293 = .ok (.putfield 122, 3) := by decide +kernel
theorem dX12_init_296 : decode cX12_init 296 = .ok (.aload_n 0, 1) := by decide +kernel
theorem dX12_init_297 : decode cX12_init 297 = .ok (.bipush 48, 2) := by decide +kernel
theorem dX12_init_299 : decode cX12_init 299 = .ok (.newarray .int, 2) := by decide +kernel
theorem dX12_init_301 : decode cX12_init 301 = .ok (.putfield 125, 3) := by decide +kernel
theorem dX12_init_304 : decode cX12_init 304 = .ok (.aload_n 0, 1) := by decide +kernel
theorem dX12_init_305 : decode cX12_init 305 = .ok (.bipush 48, 2) := by decide +kernel
theorem dX12_init_307 : decode cX12_init 307 = .ok (.newarray .int, 2) := by decide +kernel
theorem dX12_init_309 : decode cX12_init 309 = .ok (.putfield 128, 3) := by decide +kernel
theorem dX12_init_312 : decode cX12_init 312 = .ok (.aload_n 0, 1) := by decide +kernel
theorem dX12_init_313 : decode cX12_init 313 = .ok (.bipush 6, 2) := by decide +kernel
theorem dX12_init_315 : decode cX12_init 315 = .ok (.newarray .int, 2) := by decide +kernel
theorem dX12_init_317 : decode cX12_init 317 = .ok (.putfield 131, 3) := by decide +kernel
theorem dX12_init_320 : decode cX12_init 320 = .ok (.aload_n 0, 1) := by decide +kernel
theorem dX12_init_321 : decode cX12_init 321 = .ok (.bipush 6, 2) := by decide +kernel
theorem dX12_init_323 : decode cX12_init 323 = .ok (.newarray .boolean, 2) := by decide +kernel
theorem dX12_init_325 : decode cX12_init 325 = .ok (.putfield 134, 3) := by decide +kernel
theorem dX12_init_328 : decode cX12_init 328 = .ok (.aload_n 0, 1) := by decide +kernel
theorem dX12_init_329 : decode cX12_init 329 = .ok (.bipush 12, 2) := by decide +kernel
theorem dX12_init_331 : decode cX12_init 331 = .ok (.newarray .int, 2) := by decide +kernel
theorem dX12_init_333 : decode cX12_init 333 = .ok (.putfield 137, 3) := by decide +kernel
theorem dX12_init_336 : decode cX12_init 336 = .ok (.aload_n 0, 1) := by decide +kernel
theorem dX12_init_337 : decode cX12_init 337 = .ok (.sipush 1920, 3) := by decide +kernel
theorem dX12_init_340 : decode cX12_init 340 = .ok (.newarray .int, 2) := by decide +kernel
theorem dX12_init_342 : decode cX12_init 342 = .ok (.putfield 140, 3) := by decide +kernel
theorem dX12_init_345 : decode cX12_init 345 = .ok (.aload_n 0, 1) := by decide +kernel
theorem dX12_init_346 : decode cX12_init 346 = .ok (.bipush 6, 2) := by decide +kernel
theorem dX12_init_348 : decode cX12_init 348 = .ok (.newarray .int, 2) := by decide +kernel
theorem dX12_init_350 : decode cX12_init 350 = .ok (.putfield 143, 3) := by decide +kernel
theorem dX12_init_353 : decode cX12_init 353 = .ok (.aload_n 0, 1) := by decide +kernel
theorem dX12_init_354 : decode cX12_init 354 = .ok (.bipush 7, 2) := by decide +kernel
theorem dX12_init_356 : decode cX12_init 356 = .ok (.newarray .int, 2) := by decide +kernel
theorem dX12_init_358 : decode cX12_init 358 = .ok (.putfield 146, 3) := by decide +kernel
theorem dX12_init_361 : decode cX12_init 361 = .ok (.aload_n 0, 1) := by decide +kernel
theorem dX12_init_362 : decode cX12_init 362 = .ok (.sipush 896, 3) := by decide +kernel
theorem dX12_init_365 : decode cX12_init 365 = .ok (.newarray .int, 2) := by decide +kernel
theorem dX12_init_367 : decode cX12_init 367 = .ok (.putfield 149, 3) := by decide +kernel
theorem dX12_init_370 : decode cX12_init 370 = .ok (.aload_n 0, 1) := by decide +kernel
theorem dX12_init_371 : decode cX12_init 371 = .ok (.bipush 49, 2) := by decide +kernel
theorem dX12_init_373 : decode cX12_init 373 = .ok (.newarray .int, 2) := by decide +kernel
theorem dX12_init_375 : decode cX12_init 375 = .ok (.putfield 152, 3) := by decide +kernel
theorem dX12_init_378 : decode cX12_init 378 = .ok (.aload_n 0, 1) := by decide +kernel
theorem dX12_init_379 : decode cX12_init 379 = .ok (.bipush 20, 2) := by decide +kernel
theorem dX12_init_381 : decode cX12_init 381 = .ok (.newarray .int, 2) := by decide +kernel
theorem dX12_init_383 : decode cX12_init 383 = .ok (.putfield 155, 3) := by decide +kernel
theorem dX12_init_386 : decode cX12_init 386 = .ok (.aload_n 0, 1) := by decide +kernel
theorem dX12_init_387 : decode cX12_init 387 = .ok (.bipush 20, 2) := by decide +kernel
theorem dX12_init_389 : decode cX12_init 389 = .ok (.newarray .int, 2) := by decide +kernel
theorem dX12_init_391 : decode cX12_init 391 = .ok (.putfield 158, 3) := by decide +kernel
theorem dX12_init_394 : decode cX12_init 394 = .ok (.aload_n 0, 1) := by decide +kernel
theorem dX12_init_395 : decode cX12_init 395 = .ok (.bipush 20, 2) := by decide +kernel
theorem dX12_init_397 : decode cX12_init 397 = .ok (.newarray .boolean, 2) := by decide +kernel
theorem dX12_init_399 : decode cX12_init 399 = .ok (.putfield 161, 3) := by decide +kernel
theorem dX12_init_402 : decode cX12_init 402 = .ok (.aload_n 0, 1) := by decide +kernel
theorem dX12_init_403 : decode cX12_init 403 = .ok (.iconst 3, 1) := by decide +kernel
theorem dX12_init_404 : decode cX12_init 404 = .ok (.newarray .boolean, 2) := by decide +kernel
theorem dX12_init_406 : decode cX12_init 406 = .ok (.putfield 164, 3) := by decide +kernel
theorem dX12_init_409 : decode cX12_init 409 = .ok (.aload_n 0, 1) := by decide +kernel
theorem dX12_init_410 : decode cX12_init 410 = .ok (.sipush 144, 3) := by decide +kernel
theorem dX12_init_413 : decode cX12_init 413 = .ok (.newarray .int, 2) := by decide +kernel
theorem dX12_init_415 : decode cX12_init 415 = .ok (.putfield 167, 3) := by decide +kernel
theorem dX12_init_418 : decode cX12_init 418 = .ok (.aload_n 0, 1) := by decide +kernel
theorem dX12_init_419 : decode cX12_init 419 = .ok (.iconst 0, 1) := by decide +kernel
theorem dX12_init_420 : decode cX12_init 420 = .ok (.invokevirtual 170, 3) := by decide +kernel
theorem dX12_init_423 : decode cX12_init 423 = .ok (.aload_n 0, 1) := by decide +kernel
theorem dX12_init_424 : decode cX12_init 424 = .ok (.iconst 1, 1) := by decide +kernel
theorem dX12_init_425 : decode cX12_init 425 = .ok (.invokevirtual 170, 3) := by decide +kernel
theorem dX12_init_428 : decode cX12_init 428 = .ok (.aload_n 0, 1) := by decide +kernel
theorem dX12_init_429 : decode cX12_init 429 = .ok (.getfield 34, 3) := by decide +kernel
theorem dX12_init_432 : decode cX12_init 432 = .ok (.iconst 0, 1) := by decide +kernel
theorem dX12_init_433 : decode cX12_init 433 = .ok (.bipush 99, 2) := by decide +kernel
theorem dX12_init_435 : decode cX12_init 435 = .ok (.bipush 111, 2) := by decide +kernel
theorem dX12_init_437 : decode cX12_init 437 = .ok (.bipush 114, 2) := by decide +kernel
theorem dX12_init_439 : decode cX12_init 439 = .ok (.bipush 110, 2) := by decide +kernel
theorem dX12_init_441 : decode cX12_init 441 = .ok (.bipush 101, 2) := by decide +kernel
theorem dX12_init_443 : decode cX12_init 443 = .ok (.bipush 114, 2) := by decide +kernel
theorem dX12_init_445 : decode cX12_init 445 = .ok (.iconst 0, 1) := by decide +kernel
theorem dX12_init_446 : decode cX12_init 446 = .ok (.invokestatic 174, 3) := by decide +kernel
theorem dX12_init_449 : decode cX12_init 449 = .ok (.lastore, 1) := by decide +kernel
theorem dX12_init_450 : decode cX12_init 450 = .ok (.aload_n 0, 1) := by decide +kernel
theorem dX12_init_451 : decode cX12_init 451 = .ok (.getfield 34, 3) := by decide +kernel
theorem dX12_init_454 : decode cX12_init 454 = .ok (.iconst 1, 1) := by decide +kernel
theorem dX12_init_455 : decode cX12_init 455 = .ok (.bipush 115, 2) := by decide +kernel
theorem dX12_init_457 : decode cX12_init 457 = .ok (.bipush 116, 2) := by decide +kernel
theorem dX12_init_459 : decode cX12_init 459 = .ok (.bipush 114, 2) := by decide +kernel
theorem dX12_init_461 : decode cX12_init 461 = .ok (.bipush 101, 2) := by decide +kernel
theorem dX12_init_463 : decode cX12_init 463 = .ok (.bipush 101, 2) := by decide +kernel
theorem dX12_init_465 : decode cX12_init 465 = .ok (.bipush 116, 2) := by decide +kernel
theorem dX12_init_467 : decode cX12_init 467 = .ok (.iconst 0, 1) := by decide +kernel
theorem dX12_init_468 : decode cX12_init 468 = .ok (.invokestatic 174, 3) := by decide +kernel
theorem dX12_init_471 : decode cX12_init 471 = .ok (.lastore, 1) := by decide +kernel
theorem dX12_init_472 : decode cX12_init 472 = .ok (.aload_n 0, 1) := by decide +kernel
theorem dX12_init_473 : decode cX12_init 473 = .ok (.getfield 34, 3) := by decide +kernel
theorem dX12_init_476 : decode cX12_init 476 = .ok (.iconst 2, 1) := by decide +kernel
theorem dX12_init_477 : decode cX12_init 477 = .ok (.bipush 121, 2) := by decide +kernel
theorem dX12_init_479 : decode cX12_init 479 = .ok (.bipush 111, 2) := by decide +kernel
theorem dX12_init_481 : decode cX12_init 481 = .ok (.bipush 117, 2) := by decide +kernel
theorem dX12_init_483 : decode cX12_init 483 = .ok (.bipush 110, 2) := by decide +kernel
theorem dX12_init_485 : decode cX12_init 485 = .ok (.bipush 103, 2) := by decide +kernel
theorem dX12_init_487 : decode cX12_init 487 = .ok (.iconst 0, 1) := by decide +kernel
theorem dX12_init_488 : decode cX12_init 488 = .ok (.iconst 0, 1) := by decide +kernel
theorem dX12_init_489 : decode cX12_init 489 = .ok (.invokestatic 174, 3) := by decide +kernel
theorem dX12_init_492 : decode cX12_init 492 = .ok (.lastore, 1) := by decide +kernel
theorem dX12_init_493 : decode cX12_init 493 = .ok (.aload_n 0, 1) := by decide +kernel
theorem dX12_init_494 : decode cX12_init 494 = .ok (.getfield 34, 3) := by decide +kernel
theorem dX12_init_497 : decode cX12_init 497 = .ok (.iconst 3, 1) := by decide +kernel
theorem dX12_init_498 : decode cX12_init 498 = .ok (.bipush 119, 2) := by decide +kernel
theorem dX12_init_500 : decode cX12_init 500 = .ok (.bipush 111, 2) := by decide +kernel
theorem dX12_init_502 : decode cX12_init 502 = .ok (.bipush 114, 2) := by decide +kernel
theorem dX12_init_504 : decode cX12_init 504 = .ok (.bipush 100, 2) := by decide +kernel
theorem dX12_init_506 : decode cX12_init 506 = .ok (.iconst 0, 1) := by decide +kernel
theorem dX12_init_507 : decode cX12_init 507 = .ok (.iconst 0, 1) := by decide +kernel
theorem dX12_init_508 : decode cX12_init 508 = .ok (.iconst 0, 1) := by decide +kernel
theorem dX12_init_509 : decode cX12_init 509 = .ok (.invokestatic 174, 3) := by decide +kernel
theorem dX12_init_512 : decode cX12_init 512 = .ok (.lastore, 1) := by decide +kernel
theorem dX12_init_513 : decode cX12_init 513 = .ok (.aload_n 0, 1) := by decide +kernel
theorem dX12_init_514 : decode cX12_init 514 = .ok (.getfield 34, 3) := by decide +kernel
theorem dX12_init_517 : decode cX12_init 517 = .ok (.iconst 4, 1) := by decide +kernel
theorem dX12_init_518 : decode cX12_init 518 = .ok (.bipush 108, 2) := by decide +kernel
theorem dX12_init_520 : decode cX12_init 520 = .ok (.bipush 105, 2) := by decide +kernel
theorem dX12_init_522 : decode cX12_init 522 = .ok (.bipush 103, 2) := by decide +kernel
theorem dX12_init_524 : decode cX12_init 524 = .ok (.bipush 104, 2) := by decide +kernel
theorem dX12_init_526 : decode cX12_init 526 = .ok (.bipush 116, 2) := by decide +kernel
theorem dX12_init_528 : decode cX12_init 528 = .ok (.bipush 101, 2) := by decide +kernel
theorem dX12_init_530 : decode cX12_init 530 = .ok (.bipush 114, 2) := by decide +kernel
theorem dX12_init_532 : decode cX12_init 532 = .ok (.invokestatic 174, 3) := by decide +kernel
theorem dX12_init_535 : decode cX12_init 535 = .ok (.lastore, 1) := by decide +kernel
theorem dX12_init_536 : decode cX12_init 536 = .ok (.aload_n 0, 1) := by decide +kernel
theorem dX12_init_537 : decode cX12_init 537 = .ok (.getfield 34, 3) := by decide +kernel
theorem dX12_init_540 : decode cX12_init 540 = .ok (.iconst 5, 1) := by decide +kernel
theorem dX12_init_541 : decode cX12_init 541 = .ok (.bipush 103, 2) := by decide +kernel
theorem dX12_init_543 : decode cX12_init 543 = .ok (.bipush 108, 2) := by decide +kernel
theorem dX12_init_545 : decode cX12_init 545 = .ok (.bipush 111, 2) := by decide +kernel
theorem dX12_init_547 : decode cX12_init 547 = .ok (.bipush 119, 2) := by decide +kernel
theorem dX12_init_549 : decode cX12_init 549 = .ok (.bipush 115, 2) := by decide +kernel
theorem dX12_init_551 : decode cX12_init 551 = .ok (.iconst 0, 1) := by decide +kernel
theorem dX12_init_552 : decode cX12_init 552 = .ok (.iconst 0, 1) := by decide +kernel
theorem dX12_init_553 : decode cX12_init 553 = .ok (.invokestatic 174, 3) := by decide +kernel
theorem dX12_init_556 : decode cX12_init 556 = .ok (.lastore, 1) := by decide +kernel
theorem dX12_init_557 : decode cX12_init 557 = .ok (.aload_n 0, 1) := by decide +kernel
theorem dX12_init_558 : decode cX12_init 558 = .ok (.getfield 34, 3) := by decide +kernel
theorem dX12_init_561 : decode cX12_init 561 = .ok (.bipush 6, 2) := by decide +kernel
theorem dX12_init_563 : decode cX12_init 563 = .ok (.bipush 119, 2) := by decide +kernel
theorem dX12_init_565 : decode cX12_init 565 = .ok (.bipush 101, 2) := by decide +kernel
theorem dX12_init_567 : decode cX12_init 567 = .ok (.bipush 97, 2) := by decide +kernel
theorem dX12_init_569 : decode cX12_init 569 = .ok (.bipush 114, 2) := by decide +kernel
theorem dX12_init_571 : decode cX12_init 571 = .ok (.bipush 115, 2) := by decide +kernel
theorem dX12_init_573 : decode cX12_init 573 = .ok (.iconst 0, 1) := by decide +kernel
theorem dX12_init_574 : decode cX12_init 574 = .ok (.iconst 0, 1) := by decide +kernel
theorem dX12_init_575 : decode cX12_init 575 = .ok (.invokestatic 174, 3) := by decide +kernel
theorem dX12_init_578 : decode cX12_init 578 = .ok (.lastore, 1) := by decide +kernel
theorem dX12_init_579 : decode cX12_init 579 = .ok (.aload_n 0, 1) := by decide +kernel
theorem dX12_init_580 : decode cX12_init 580 = .ok (.getfield 34, 3) := by decide +kernel
theorem dX12_init_583 : decode cX12_init 583 = .ok (.bipush 7, 2) := by decide +kernel
theorem dX12_init_585 : decode cX12_init 585 = .ok (.bipush 99, 2) := by decide +kernel
theorem dX12_init_587 : decode cX12_init 587 = .ok (.bipush 111, 2) := by decide +kernel
theorem dX12_init_589 : decode cX12_init 589 = .ok (.bipush 111, 2) := by decide +kernel
theorem dX12_init_591 : decode cX12_init 591 = .ok (.bipush 108, 2) := by decide +kernel
theorem dX12_init_593 : decode cX12_init 593 = .ok (.bipush 115, 2) := by decide +kernel
theorem dX12_init_595 : decode cX12_init 595 = .ok (.iconst 0, 1) := by decide +kernel
theorem dX12_init_596 : decode cX12_init 596 = .ok (.iconst 0, 1) := by decide +kernel
theorem dX12_init_597 : decode cX12_init 597 = .ok (.invokestatic 174, 3) := by decide +kernel
theorem dX12_init_600 : decode cX12_init 600 = .ok (.lastore, 1) := by decide +kernel
theorem dX12_init_601 : decode cX12_init 601 = .ok (.aload_n 0, 1) := by decide +kernel
theorem dX12_init_602 : decode cX12_init 602 = .ok (.getfield 34, 3) := by decide +kernel
theorem dX12_init_605 : decode cX12_init 605 = .ok (.bipush 8, 2) := by decide +kernel
theorem dX12_init_607 : decode cX12_init 607 = .ok (.bipush 108, 2) := by decide +kernel
theorem dX12_init_609 : decode cX12_init 609 = .ok (.bipush 101, 2) := by decide +kernel
theorem dX12_init_611 : decode cX12_init 611 = .ok (.bipush 97, 2) := by decide +kernel
theorem dX12_init_613 : decode cX12_init 613 = .ok (.bipush 118, 2) := by decide +kernel
theorem dX12_init_615 : decode cX12_init 615 = .ok (.bipush 101, 2) := by decide +kernel
theorem dX12_init_617 : decode cX12_init 617 = .ok (.bipush 115, 2) := by decide +kernel
theorem dX12_init_619 : decode cX12_init 619 = .ok (.iconst 0, 1) := by decide +kernel
theorem dX12_init_620 : decode cX12_init 620 = .ok (.invokestatic 174, 3) := by decide +kernel
theorem dX12_init_623 : decode cX12_init 623 = .ok (.lastore, 1) := by decide +kernel
theorem dX12_init_624 : decode cX12_init 624 = .ok (.aload_n 0, 1) := by decide +kernel
theorem dX12_init_625 : decode cX12_init 625 = .ok (.getfield 34, 3) := by decide +kernel
theorem dX12_init_628 : decode cX12_init 628 = .ok (.bipush 9, 2) := by decide +kernel
theorem dX12_init_630 : decode cX12_init 630 = .ok (.bipush 100, 2) := by decide +kernel
theorem dX12_init_632 : decode cX12_init 632 = .ok (.bipush 114, 2) := by decide +kernel
theorem dX12_init_634 : decode cX12_init 634 = .ok (.bipush 97, 2) := by decide +kernel
theorem dX12_init_636 : decode cX12_init 636 = .ok (.bipush 117, 2) := by decide +kernel
theorem dX12_init_638 : decode cX12_init 638 = .ok (.bipush 103, 2) := by decide +kernel
theorem dX12_init_640 : decode cX12_init 640 = .ok (.bipush 104, 2) := by decide +kernel
theorem dX12_init_642 : decode cX12_init 642 = .ok (.bipush 116, 2) := by decide +kernel
theorem dX12_init_644 : decode cX12_init 644 = .ok (.invokestatic 174, 3) := by decide +kernel
theorem dX12_init_647 : decode cX12_init 647 = .ok (.lastore, 1) := by decide +kernel
theorem dX12_init_648 : decode cX12_init 648 = .ok (.aload_n 0, 1) := by decide +kernel
theorem dX12_init_649 : decode cX12_init 649 = .ok (.getfield 34, 3) := by decide +kernel
theorem dX12_init_652 : decode cX12_init 652 = .ok (.bipush 10, 2) := by decide +kernel
theorem dX12_init_654 : decode cX12_init 654 = .ok (.bipush 115, 2) := by decide +kernel
theorem dX12_init_656 : decode cX12_init 656 = .ok (.bipush 101, 2) := by decide +kernel
theorem dX12_init_658 : decode cX12_init 658 = .ok (.bipush 101, 2) := by decide +kernel
theorem dX12_init_660 : decode cX12_init 660 = .ok (.bipush 100, 2) := by decide +kernel
theorem dX12_init_662 : decode cX12_init 662 = .ok (.iconst 0, 1) := by decide +kernel
theorem dX12_init_663 : decode cX12_init 663 = .ok (.iconst 0, 1) := by decide +kernel
theorem dX12_init_664 : decode cX12_init 664 = .ok (.iconst 0, 1) := by decide +kernel
theorem dX12_init_665 : decode cX12_init 665 = .ok (.invokestatic 174, 3) := by decide +kernel
theorem dX12_init_668 : decode cX12_init 668 = .ok (.lastore, 1) := by decide +kernel
theorem dX12_init_669 : decode cX12_init 669 = .ok (.aload_n 0, 1) := by decide +kernel
theorem dX12_init_670 : decode cX12_init 670 = .ok (.getfield 34, 3) := by decide +kernel
theorem dX12_init_673 : decode cX12_init 673 = .ok (.bipush 11, 2) := by decide +kernel
theorem dX12_init_675 : decode cX12_init 675 = .ok (.bipush 105, 2) := by decide +kernel
theorem dX12_init_677 : decode cX12_init 677 = .ok (.bipush 102, 2) := by decide +kernel
theorem dX12_init_679 : decode cX12_init 679 = .ok (.iconst 0, 1) := by decide +kernel
theorem dX12_init_680 : decode cX12_init 680 = .ok (.iconst 0, 1) := by decide +kernel
theorem dX12_init_681 : decode cX12_init 681 = .ok (.iconst 0, 1) := by decide +kernel
theorem dX12_init_682 : decode cX12_init 682 = .ok (.iconst 0, 1) := by decide +kernel
theorem dX12_init_683 : decode cX12_init 683 = .ok (.iconst 0, 1) := by decide +kernel
theorem dX12_init_684 : decode cX12_init 684 = .ok (.invokestatic 174, 3) := by decide +kernel
theorem dX12_init_687 : decode cX12_init 687 = .ok (.lastore, 1) := by decide +kernel
theorem dX12_init_688 : decode cX12_init 688 = .ok (.aload_n 0, 1) := by decide +kernel
theorem dX12_init_689 : decode cX12_init 689 = .ok (.getfield 34, 3) := by decide +kernel
theorem dX12_init_692 : decode cX12_init 692 = .ok (.bipush 12, 2) := by decide +kernel
theorem dX12_init_694 : decode cX12_init 694 = .ok (.bipush 116, 2) := by decide +kernel
theorem dX12_init_696 : decode cX12_init 696 = .ok (.bipush 104, 2) := by decide +kernel
theorem dX12_init_698 : decode cX12_init 698 = .ok (.bipush 101, 2) := by decide +kernel
theorem dX12_init_700 : decode cX12_init 700 = .ok (.bipush 110, 2) := by decide +kernel
theorem dX12_init_702 : decode cX12_init 702 = .ok (.iconst 0, 1) := by decide +kernel
theorem dX12_init_703 : decode cX12_init 703 = .ok (.iconst 0, 1) := by decide +kernel
theorem dX12_init_704 : decode cX12_init 704 = .ok (.iconst 0, 1) := by decide +kernel
theorem dX12_init_705 : decode cX12_init 705 = .ok (.invokestatic 174, 3) := by decide +kernel
theorem dX12_init_708 : decode cX12_init 708 = .ok (.lastore, 1) := by decide +kernel
theorem dX12_init_709 : decode cX12_init 709 = .ok (.aload_n 0, 1) := by decide +kernel
theorem dX12_init_710 : decode cX12_init 710 = .ok (.getfield 34, 3) := by decide +kernel
theorem dX12_init_713 : decode cX12_init 713 = .ok (.bipush 13, 2) := by decide +kernel
theorem dX12_init_715 : decode cX12_init 715 = .ok (.bipush 101, 2) := by decide +kernel
theorem dX12_init_717 : decode cX12_init 717 = .ok (.bipush 108, 2) := by decide +kernel
theorem dX12_init_719 : decode cX12_init 719 = .ok (.bipush 115, 2) := by decide +kernel
theorem dX12_init_721 : decode cX12_init 721 = .ok (.bipush 101, 2) := by decide +kernel
theorem dX12_init_723 : decode cX12_init 723 = .ok (.iconst 0, 1) := by decide +kernel
theorem dX12_init_724 : decode cX12_init 724 = .ok (.iconst 0, 1) := by decide +kernel
theorem dX12_init_725 : decode cX12_init 725 = .ok (.iconst 0, 1) := by decide +kernel
theorem dX12_init_726 : decode cX12_init 726 = .ok (.invokestatic 174, 3) := by decide +kernel
theorem dX12_init_729 : decode cX12_init 729 = .ok (.lastore, 1) := by decide +kernel
theorem dX12_init_730 : decode cX12_init 730 = .ok (.aload_n 0, 1) := by decide +kernel
theorem dX12_init_731 : decode cX12_init 731 = .ok (.getfield 34, 3) := by decide +kernel
theorem dX12_init_734 : decode cX12_init 734 = .ok (.bipush 14, 2) := by decide +kernel
theorem dX12_init_736 : decode cX12_init 736 = .ok (.bipush 104, 2) := by decide +kernel
theorem dX12_init_738 : decode cX12_init 738 = .ok (.bipush 101, 2) := by decide +kernel
theorem dX12_init_740 : decode cX12_init 740 = .ok (.bipush 97, 2) := by decide +kernel
theorem dX12_init_742 : decode cX12_init 742 = .ok (.bipush 116, 2) := by decide +kernel
theorem dX12_init_744 : decode cX12_init 744 = .ok (.iconst 0, 1) := by decide +kernel
theorem dX12_init_745 : decode cX12_init 745 = .ok (.iconst 0, 1) := by decide +kernel
theorem dX12_init_746 : decode cX12_init 746 = .ok (.iconst 0, 1) := by decide +kernel
theorem dX12_init_747 : decode cX12_init 747 = .ok (.invokestatic 174, 3) := by decide +kernel
theorem dX12_init_750 : decode cX12_init 750 = .ok (.lastore, 1) := by decide +kernel
theorem dX12_init_751 : decode cX12_init 751 = .ok (.aload_n 0, 1) := by decide +kernel
theorem dX12_init_752 : decode cX12_init 752 = .ok (.getfield 34, 3) := by decide +kernel
theorem dX12_init_755 : decode cX12_init 755 = .ok (.bipush 15, 2) := by decide +kernel
theorem dX12_init_757 : decode cX12_init 757 = .ok (.bipush 97, 2) := by decide +kernel
theorem dX12_init_759 : decode cX12_init 759 = .ok (.bipush 103, 2) := by decide +kernel
theorem dX12_init_761 : decode cX12_init 761 = .ok (.bipush 101, 2) := by decide +kernel
theorem dX12_init_763 : decode cX12_init 763 = .ok (.iconst 0, 1) := by decide +kernel
theorem dX12_init_764 : decode cX12_init 764 = .ok (.iconst 0, 1) := by decide +kernel
theorem dX12_init_765 : decode cX12_init 765 = .ok (.iconst 0, 1) := by decide +kernel
theorem dX12_init_766 : decode cX12_init 766 = .ok (.iconst 0, 1) := by decide +kernel
theorem dX12_init_767 : decode cX12_init 767 = .ok (.invokestatic 174, 3) := by decide +kernel
theorem dX12_init_770 : decode cX12_init 770 = .ok (.lastore, 1) := by decide +kernel
theorem dX12_init_771 : decode cX12_init 771 = .ok (.aload_n 0, 1) := by decide +kernel
theorem dX12_init_772 : decode cX12_init 772 = .ok (.getfield 34, 3) := by decide +kernel
theorem dX12_init_775 : decode cX12_init 775 = .ok (.bipush 16, 2) := by decide +kernel
theorem dX12_init_777 : decode cX12_init 777 = .ok (.bipush 116, 2) := by decide +kernel
theorem dX12_init_779 : decode cX12_init 779 = .ok (.bipush 101, 2) := by decide +kernel
theorem dX12_init_781 : decode cX12_init 781 = .ok (.bipush 109, 2) := by decide +kernel
theorem dX12_init_783 : decode cX12_init 783 = .ok (.bipush 112, 2) := by decide +kernel
theorem dX12_init_785 : decode cX12_init 785 = .ok (.bipush 101, 2) := by decide +kernel
theorem dX12_init_787 : decode cX12_init 787 = .ok (.bipush 114, 2) := by decide +kernel
theorem dX12_init_789 : decode cX12_init 789 = .ok (.iconst 0, 1) := by decide +kernel
theorem dX12_init_790 : decode cX12_init 790 = .ok (.invokestatic 174, 3) := by decide +kernel
theorem dX12_init_793 : decode cX12_init 793 = .ok (.lastore, 1) := by decide +kernel
theorem dX12_init_794 : decode cX12_init 794 = .ok (.aload_n 0, 1) := by decide +kernel
theorem dX12_init_795 : decode cX12_init 795 = .ok (.getfield 34, 3) := by decide +kernel
theorem dX12_init_798 : decode cX12_init 798 = .ok (.bipush 17, 2) := by decide +kernel
theorem dX12_init_800 : decode cX12_init 800 = .ok (.bipush 119, 2) := by decide +kernel
theorem dX12_init_802 : decode cX12_init 802 = .ok (.bipush 111, 2) := by decide +kernel
theorem dX12_init_804 : decode cX12_init 804 = .ok (.bipush 114, 2) := by decide +kernel
theorem dX12_init_806 : decode cX12_init 806 = .ok (.bipush 110, 2) := by decide +kernel
theorem dX12_init_808 : decode cX12_init 808 = .ok (.iconst 0, 1) := by decide +kernel
theorem dX12_init_809 : decode cX12_init 809 = .ok (.iconst 0, 1) := by decide +kernel
theorem dX12_init_810 : decode cX12_init 810 = .ok (.iconst 0, 1) := by decide +kernel
theorem dX12_init_811 : decode cX12_init 811 = .ok (.invokestatic 174, 3) := by decide +kernel
theorem dX12_init_814 : decode cX12_init 814 = .ok (.lastore, 1) := by decide +kernel
theorem dX12_init_815 : decode cX12_init 815 = .ok (.aload_n 0, 1) := by decide +kernel
theorem dX12_init_816 : decode cX12_init 816 = .ok (.getfield 34, 3) := by decide +kernel
theorem dX12_init_819 : decode cX12_init 819 = .ok (.bipush 18, 2) := by decide +kernel
theorem dX12_init_821 : decode cX12_init 821 = .ok (.bipush 115, 2) := by decide +kernel
theorem dX12_init_823 : decode cX12_init 823 = .ok (.bipush 105, 2) := by decide +kernel
theorem dX12_init_825 : decode cX12_init 825 = .ok (.bipush 110, 2) := by decide +kernel
theorem dX12_init_827 : decode cX12_init 827 = .ok (.bipush 99, 2) := by decide +kernel
theorem dX12_init_829 : decode cX12_init 829 = .ok (.bipush 101, 2) := by decide +kernel
theorem dX12_init_831 : decode cX12_init 831 = .ok (.iconst 0, 1) := by decide +kernel
theorem dX12_init_832 : decode cX12_init 832 = .ok (.iconst 0, 1) := by decide +kernel
theorem dX12_init_833 : decode cX12_init 833 = .ok (.invokestatic 174, 3) := by decide +kernel
theorem dX12_init_836 : decode cX12_init 836 = .ok (.lastore, 1) := by decide +kernel
theorem dX12_init_837 : decode cX12_init 837 = .ok (.aload_n 0, 1) := by decide +kernel
theorem dX12_init_838 : decode cX12_init 838 = .ok (.getfield 34, 3) := by decide +kernel
theorem dX12_init_841 : decode cX12_init 841 = .ok (.bipush 19, 2) := by decide +kernel
theorem dX12_init_843 : decode cX12_init 843 = .ok (.bipush 104, 2) := by decide +kernel
theorem dX12_init_845 : decode cX12_init 845 = .ok (.bipush 111, 2) := by decide +kernel
theorem dX12_init_847 : decode cX12_init 847 = .ok (.bipush 117, 2) := by decide +kernel
theorem dX12_init_849 : decode cX12_init 849 = .ok (.bipush 114, 2) := by decide +kernel
theorem dX12_init_851 : decode cX12_init 851 = .ok (.iconst 0, 1) := by decide +kernel
theorem dX12_init_852 : decode cX12_init 852 = .ok (.iconst 0, 1) := by decide +kernel
theorem dX12_init_853 : decode cX12_init 853 = .ok (.iconst 0, 1) := by decide +kernel
theorem dX12_init_854 : decode cX12_init 854 = .ok (.invokestatic 174, 3) := by decide +kernel
theorem dX12_init_857 : decode cX12_init 857 = .ok (.lastore, 1) := by decide +kernel
theorem dX12_init_858 : decode cX12_init 858 = .ok (.aload_n 0, 1) := by decide +kernel
theorem dX12_init_859 : decode cX12_init 859 = .ok (.getfield 34, 3) := by decide +kernel
theorem dX12_init_862 : decode cX12_init 862 = .ok (.bipush 20, 2) := by decide +kernel
theorem dX12_init_864 : decode cX12_init 864 = .ok (.bipush 103, 2) := by decide +kernel
theorem dX12_init_866 : decode cX12_init 866 = .ok (.bipush 108, 2) := by decide +kernel
theorem dX12_init_868 : decode cX12_init 868 = .ok (.bipush 111, 2) := by decide +kernel
theorem dX12_init_870 : decode cX12_init 870 = .ok (.bipush 119, 2) := by decide +kernel
theorem dX12_init_872 : decode cX12_init 872 = .ok (.iconst 0, 1) := by decide +kernel
theorem dX12_init_873 : decode cX12_init 873 = .ok (.iconst 0, 1) := by decide +kernel
theorem dX12_init_874 : decode cX12_init 874 = .ok (.iconst 0, 1) := by decide +kernel
theorem dX12_init_875 : decode cX12_init 875 = .ok (.invokestatic 174, 3) := by decide +kernel
theorem dX12_init_878 : decode cX12_init 878 = .ok (.lastore, 1) := by decide +kernel
theorem dX12_init_879 : decode cX12_init 879 = .ok (.aload_n 0, 1) := by decide +kernel
theorem dX12_init_880 : decode cX12_init 880 = .ok (.getfield 34, 3) := by decide +kernel
theorem dX12_init_883 : decode cX12_init 883 = .ok (.bipush 21, 2) := by decide +kernel
theorem dX12_init_885 : decode cX12_init 885 = .ok (.bipush 119, 2) := by decide +kernel
theorem dX12_init_887 : decode cX12_init 887 = .ok (.bipush 104, 2) := by decide +kernel
theorem dX12_init_889 : decode cX12_init 889 = .ok (.bipush 105, 2) := by decide +kernel
theorem dX12_init_891 : decode cX12_init 891 = .ok (.bipush 99, 2) := by decide +kernel
theorem dX12_init_893 : decode cX12_init 893 = .ok (.bipush 104, 2) := by decide +kernel
theorem dX12_init_895 : decode cX12_init 895 = .ok (.iconst 0, 1) := by decide +kernel
theorem dX12_init_896 : decode cX12_init 896 = .ok (.iconst 0, 1) := by decide +kernel
theorem dX12_init_897 : decode cX12_init 897 = .ok (.invokestatic 174, 3) := by decide +kernel
theorem dX12_init_900 : decode cX12_init 900 = .ok (.lastore, 1) := by decide +kernel
theorem dX12_init_901 : decode cX12_init 901 = .ok (.aload_n 0, 1) := by decide +kernel
theorem dX12_init_902 : decode cX12_init 902 = .ok (.getfield 34, 3) := by decide +kernel
theorem dX12_init_905 : decode cX12_init 905 = .ok (.bipush 22, 2) := by decide +kernel
theorem dX12_init_907 : decode cX12_init 907 = .ok (.bipush 116, 2) := by decide +kernel
theorem dX12_init_909 : decode cX12_init 909 = .ok (.bipush 111, 2) := by decide +kernel
theorem dX12_init_911 : decode cX12_init 911 = .ok (.bipush 108, 2) := by decide +kernel
theorem dX12_init_913 : decode cX12_init 913 = .ok (.bipush 100, 2) := by decide +kernel
theorem dX12_init_915 : decode cX12_init 915 = .ok (.iconst 0, 1) := by decide +kernel
theorem dX12_init_916 : decode cX12_init 916 = .ok (.iconst 0, 1) := by decide +kernel
theorem dX12_init_917 : decode cX12_init 917 = .ok (.iconst 0, 1) := by decide +kernel
theorem dX12_init_918 : decode cX12_init 918 = .ok (.invokestatic 174, 3) := by decide +kernel
theorem dX12_init_921 : decode cX12_init 921 = .ok (.lastore, 1) := by decide +kernel
theorem dX12_init_922 : decode cX12_init 922 = .ok (.aload_n 0, 1) := by decide +kernel
theorem dX12_init_923 : decode cX12_init 923 = .ok (.invokevirtual 178, 3) := by decide +kernel
theorem dX12_init_926 : decode cX12_init 926 = .ok (.aload_n 0, 1) := by decide +kernel
theorem dX12_init_927 : decode cX12_init 927 = .ok (.invokevirtual 181, 3) := by decide +kernel
theorem dX12_init_930 : decode cX12_init 930 = .ok (.return_, 1) := by decide +kernel
theorem dX12_feed_0 : decode cX12_feed 0 = .ok (.aload_n 0, 1) := by decide +kernel
theorem dX12_feed_1 : decode cX12_feed 1 = .ok (.getfield 184, 3) := by decide +kernel
theorem dX12_feed_4 : decode cX12_feed 4 = .ok (.bipush 20, 2) := by decide +kernel
theorem dX12_feed_6 : decode cX12_feed 6 = .ok (.iadd, 1) := by decide +kernel
theorem dX12_feed_7 : decode cX12_feed 7 = .ok (.sipush 2000, 3) := by decide +kernel
theorem dX12_feed_10 : decode cX12_feed 10 = .ok (.if_icmp .le 5, 3) := by decide +kernel
theorem dX12_feed_13 : decode cX12_feed 13 = .ok (.iconst (-1), 1) := by decide +kernel
theorem dX12_feed_14 : decode cX12_feed 14 = .ok (.ireturn, 1) := by decide +kernel
theorem dX12_feed_15 : decode cX12_feed 15 = .ok (.aload_n 0, 1) := by decide +kernel
theorem dX12_feed_16 : decode cX12_feed 16 = .ok (.iload_n 1, 1) := by decide +kernel
theorem dX12_feed_17 : decode cX12_feed 17 = .ok (.invokevirtual 187, 3) := by decide +kernel
theorem dX12_feed_20 : decode cX12_feed 20 = .ok (.aload_n 0, 1) := by decide +kernel
theorem dX12_feed_21 : decode cX12_feed 21 = .ok (.iload_n 2, 1) := by decide +kernel
theorem dX12_feed_22 : decode cX12_feed 22 = .ok (.invokevirtual 187, 3) := by decide +kernel
theorem dX12_feed_25 : decode cX12_feed 25 = .ok (.aload_n 0, 1) := by decide +kernel
theorem dX12_feed_26 : decode cX12_feed 26 = .ok (.iload_n 3, 1) := by decide +kernel
theorem dX12_feed_27 : decode cX12_feed 27 = .ok (.invokevirtual 187, 3) := by decide +kernel
theorem dX12_feed_30 : decode cX12_feed 30 = .ok (.aload_n 0, 1) := by decide +kernel
theorem dX12_feed_31 : decode cX12_feed 31 = .ok (.iload 4, 2) := by decide +kernel
theorem dX12_feed_33 : decode cX12_feed 33 = .ok (.invokevirtual 187, 3) := by decide +kernel
theorem dX12_feed_36 : decode cX12_feed 36 = .ok (.aload_n 0, 1) := by decide +kernel
theorem dX12_feed_37 : decode cX12_feed 37 = .ok (.iload 5, 2) := by decide +kernel
theorem dX12_feed_39 : decode cX12_feed 39 = .ok (.invokevirtual 187, 3) := by decide +kernel
theorem dX12_feed_42 : decode cX12_feed 42 = .ok (.aload_n 0, 1) := by decide +kernel
theorem dX12_feed_43 : decode cX12_feed 43 = .ok (.getfield 184, 3) := by decide +kernel
theorem dX12_feed_46 : decode cX12_feed 46 = .ok (.ireturn, 1) := by decide +kernel
theorem dX12_put_0 : decode cX12_put 0 = .ok (.bipush 24, 2) := by decide +kernel
theorem dX12_put_2 : decode cX12_put 2 = .ok (.istore_n 2, 1) := by decide +kernel
theorem dX12_put_3 : decode cX12_put 3 = .ok (.iload_n 2, 1) := by decide +kernel
theorem dX12_put_4 : decode cX12_put 4 = .ok (.ifCond .lt 32, 3) := by decide +kernel
theorem dX12_put_7 : decode cX12_put 7 = .ok (.aload_n 0, 1) := by decide +kernel
theorem dX12_put_8 : decode cX12_put 8 = .ok (.getfield 13, 3) := by decide +kernel
theorem dX12_put_11 : decode cX12_put 11 = .ok (.aload_n 0, 1) := by decide +kernel
theorem dX12_put_12 : decode cX12_put 12 = .ok (.getfield 184, 3) := by decide +kernel
theorem dX12_put_15 : decode cX12_put 15 = .ok (.iload_n 1, 1) := by decide +kernel
theorem dX12_put_16 : decode cX12_put 16 = .ok (.iload_n 2, 1) := by decide +kernel
theorem dX12_put_17 : decode cX12_put 17 = .ok (.ishr, 1) := by decide +kernel
theorem dX12_put_18 : decode cX12_put 18 = .ok (.i2b, 1) := by decide +kernel
theorem dX12_put_19 : decode cX12_put 19 = .ok (.bastore, 1) := by decide +kernel
theorem dX12_put_20 : decode cX12_put 20 = .ok (.aload_n 0, 1) := by decide +kernel
theorem dX12_put_21 : decode cX12_put 21 = .ok (.dup, 1) := by decide +kernel
theorem dX12_put_22 : decode cX12_put 22 = .ok (.getfield 184, 3) := by decide +kernel
theorem dX12_put_25 : decode cX12_put 25 = .ok (.iconst 1, 1) := by decide +kernel
theorem dX12_put_26 : decode cX12_put 26 = .ok (.iadd, 1) := by decide +kernel
theorem dX12_put_27 : decode cX12_put 27 = .ok (.putfield 184, 3) := by decide +kernel
theorem dX12_put_30 : decode cX12_put 30 = .ok (.iinc 2 (-8), 3) := by decide +kernel
theorem dX12_put_33 : decode cX12_put 33 = .ok (.goto (-30), 3) := by decide +kernel
theorem dX12_put_36 : decode cX12_put 36 = .ok (.return_, 1) := by decide +kernel
theorem dX12_back_0 : decode cX12_back 0 = .ok (.iload_n 1, 1) := by decide +kernel
theorem dX12_back_1 : decode cX12_back 1 = .ok (.ifCond .lt 11, 3) := by decide +kernel
theorem dX12_back_4 : decode cX12_back 4 = .ok (.iload_n 1, 1) := by decide +kernel
theorem dX12_back_5 : decode cX12_back 5 = .ok (.aload_n 0, 1) := by decide +kernel
theorem dX12_back_6 : decode cX12_back 6 = .ok (.getfield 184, 3) := by decide +kernel
theorem dX12_back_9 : decode cX12_back 9 = .ok (.if_icmp .le 5, 3) := by decide +kernel
theorem dX12_back_12 : decode cX12_back 12 = .ok (.iconst (-1), 1) := by decide +kernel
theorem dX12_back_13 : decode cX12_back 13 = .ok (.ireturn, 1) := by decide +kernel
theorem dX12_back_14 : decode cX12_back 14 = .ok (.aload_n 0, 1) := by decide +kernel
theorem dX12_back_15 : decode cX12_back 15 = .ok (.dup, 1) := by decide +kernel
theorem dX12_back_16 : decode cX12_back 16 = .ok (.getfield 184, 3) := by decide +kernel
theorem dX12_back_19 : decode cX12_back 19 = .ok (.iload_n 1, 1) := by decide +kernel
theorem dX12_back_20 : decode cX12_back 20 = .ok (.isub, 1) := by decide +kernel
theorem dX12_back_21 : decode cX12_back 21 = .ok (.putfield 184, 3) := by decide +kernel
theorem dX12_back_24 : decode cX12_back 24 = .ok (.aload_n 0, 1) := by decide +kernel
theorem dX12_back_25 : decode cX12_back 25 = .ok (.getfield 184, 3) := by decide +kernel
theorem dX12_back_28 : decode cX12_back 28 = .ok (.ireturn, 1) := by decide +kernel
theorem dX12_byteAt_0 : decode cX12_byteAt 0 = .ok (.iload_n 1, 1) := by decide +kernel
theorem dX12_byteAt_1 : decode cX12_byteAt 1 = .ok (.aload_n 0, 1) := by decide +kernel
theorem dX12_byteAt_2 : decode cX12_byteAt 2 = .ok (.getfield 190, 3) := by decide +kernel
theorem dX12_byteAt_5 : decode cX12_byteAt 5 = .ok (.if_icmp .ge 16, 3) := by decide +kernel
theorem dX12_byteAt_8 : decode cX12_byteAt 8 = .ok (.aload_n 0, 1) := by decide +kernel
theorem dX12_byteAt_9 : decode cX12_byteAt 9 = .ok (.getfield 17, 3) := by decide +kernel
theorem dX12_byteAt_12 : decode cX12_byteAt 12 = .ok (.iload_n 1, 1) := by decide +kernel
theorem dX12_byteAt_13 : decode cX12_byteAt 13 = .ok (.baload, 1) := by decide +kernel
theorem dX12_byteAt_14 : decode cX12_byteAt 14 = .ok (.sipush 255, 3) := by decide +kernel
theorem dX12_byteAt_17 : decode cX12_byteAt 17 = .ok (.iand, 1) := by decide +kernel
theorem dX12_byteAt_18 : decode cX12_byteAt 18 = .ok (.goto 4, 3) := by decide +kernel
theorem dX12_byteAt_21 : decode cX12_byteAt 21 = .ok (.iconst 0, 1) := by decide +kernel
theorem dX12_byteAt_22 : decode cX12_byteAt 22 = .ok (.ireturn, 1) := by decide +kernel
theorem dX12_isDigit_0 : decode cX12_isDigit 0 = .ok (.iload_n 0, 1) := by decide +kernel
theorem dX12_isDigit_1 : decode cX12_isDigit 1 = .ok (.bipush 48, 2) := by decide +kernel
theorem dX12_isDigit_3 : decode cX12_isDigit 3 = .ok (.if_icmp .lt 13, 3) := by decide +kernel
theorem dX12_isDigit_6 : decode cX12_isDigit 6 = .ok (.iload_n 0, 1) := by decide +kernel
theorem dX12_isDigit_7 : decode cX12_isDigit 7 = .ok (.bipush 57, 2) := by decide +kernel
theorem dX12_isDigit_9 : decode cX12_isDigit 9 = .ok (.if_icmp .gt 7, 3) := by decide +kernel
theorem dX12_isDigit_12 : decode cX12_isDigit 12 = .ok (.iconst 1, 1) := by decide +kernel
theorem dX12_isDigit_13 : decode cX12_isDigit 13 = .ok (.goto 4, 3) := by decide +kernel
theorem dX12_isDigit_16 : decode cX12_isDigit 16 = .ok (.iconst 0, 1) := by decide +kernel
theorem dX12_isDigit_17 : decode cX12_isDigit 17 = .ok (.ireturn, 1) := by decide +kernel
theorem dX12_isLetter_0 : decode cX12_isLetter 0 = .ok (.iload_n 0, 1) := by decide +kernel
theorem dX12_isLetter_1 : decode cX12_isLetter 1 = .ok (.bipush 97, 2) := by decide +kernel
theorem dX12_isLetter_3 : decode cX12_isLetter 3 = .ok (.if_icmp .lt 13, 3) := by decide +kernel
theorem dX12_isLetter_6 : decode cX12_isLetter 6 = .ok (.iload_n 0, 1) := by decide +kernel
theorem dX12_isLetter_7 : decode cX12_isLetter 7 = .ok (.bipush 122, 2) := by decide +kernel
theorem dX12_isLetter_9 : decode cX12_isLetter 9 = .ok (.if_icmp .gt 7, 3) := by decide +kernel
theorem dX12_isLetter_12 : decode cX12_isLetter 12 = .ok (.iconst 1, 1) := by decide +kernel
theorem dX12_isLetter_13 : decode cX12_isLetter 13 = .ok (.goto 4, 3) := by decide +kernel
theorem dX12_isLetter_16 : decode cX12_isLetter 16 = .ok (.iconst 0, 1) := by decide +kernel
theorem dX12_isLetter_17 : decode cX12_isLetter 17 = .ok (.ireturn, 1) := by decide +kernel
theorem dX12_appends_0 : decode cX12_appends 0 = .ok (.iload_n 2, 1) := by decide +kernel
theorem dX12_appends_1 : decode cX12_appends 1 = .ok (.ifCond .ne 7, 3) := by decide +kernel
theorem dX12_appends_4 : decode cX12_appends 4 = .ok (.lload_n 0, 1) := by decide +kernel
theorem dX12_appends_5 : decode cX12_appends 5 = .ok (.goto 16, 3) := by decide +kernel
theorem dX12_appends_8 : decode cX12_appends 8 = .ok (.ldc2_w 193, 3) := by decide +kernel
theorem dX12_appends_11 : decode cX12_appends 11 = .ok (.lload_n 0, 1) := by decide +kernel
theorem dX12_appends_12 : decode cX12_appends 12 = .ok (.lmul, 1) := by decide +kernel
theorem dX12_appends_13 : decode cX12_appends 13 = .ok (.iload_n 2, 1) := by decide +kernel
theorem dX12_appends_14 : decode cX12_appends 14 = .ok (.bipush 97, 2) := by decide +kernel
theorem dX12_appends_16 : decode cX12_appends 16 = .ok (.isub, 1) := by decide +kernel
theorem dX12_appends_17 : decode cX12_appends 17 = .ok (.iconst 1, 1) := by decide +kernel
theorem dX12_appends_18 : decode cX12_appends 18 = .ok (.iadd, 1) := by decide +kernel
theorem dX12_appends_19 : decode cX12_appends 19 = .ok (.i2l, 1) := by decide +kernel
theorem dX12_appends_20 : decode cX12_appends 20 = .ok (.ladd, 1) := by decide +kernel
theorem dX12_appends_21 : decode cX12_appends 21 = .ok (.lreturn, 1) := by decide +kernel
theorem dX12_word_0 : decode cX12_word 0 = .ok (.lconst 0, 1) := by decide +kernel
theorem dX12_word_1 : decode cX12_word 1 = .ok (.iload_n 0, 1) := by decide +kernel
theorem dX12_word_2 : decode cX12_word 2 = .ok (.invokestatic 195, 3) := by decide +kernel
theorem dX12_word_5 : decode cX12_word 5 = .ok (.iload_n 1, 1) := by decide +kernel
theorem dX12_word_6 : decode cX12_word 6 = .ok (.invokestatic 195, 3) := by decide +kernel
theorem dX12_word_9 : decode cX12_word 9 = .ok (.iload_n 2, 1) := by decide +kernel
theorem dX12_word_10 : decode cX12_word 10 = .ok (.invokestatic 195, 3) := by decide +kernel
theorem dX12_word_13 : decode cX12_word 13 = .ok (.iload_n 3, 1) := by decide +kernel
theorem dX12_word_14 : decode cX12_word 14 = .ok (.invokestatic 195, 3) := by decide +kernel
theorem dX12_word_17 : decode cX12_word 17 = .ok (.iload 4, 2) := by decide +kernel
theorem dX12_word_19 : decode cX12_word 19 = .ok (.invokestatic 195, 3) := by decide +kernel
theorem dX12_word_22 : decode cX12_word 22 = .ok (.iload 5, 2) := by decide +kernel
theorem dX12_word_24 : decode cX12_word 24 = .ok (.invokestatic 195, 3) := by decide +kernel
theorem dX12_word_27 : decode cX12_word 27 = .ok (.iload 6, 2) := by decide +kernel
theorem dX12_word_29 : decode cX12_word 29 = .ok (.invokestatic 195, 3) := by decide +kernel
theorem dX12_word_32 : decode cX12_word 32 = .ok (.lreturn, 1) := by decide +kernel
theorem dX12_token_0 : decode cX12_token 0 = .ok (.aload_n 0, 1) := by decide +kernel
theorem dX12_token_1 : decode cX12_token 1 = .ok (.getfield 20, 3) := by decide +kernel
theorem dX12_token_4 : decode cX12_token 4 = .ok (.aload_n 0, 1) := by decide +kernel
theorem dX12_token_5 : decode cX12_token 5 = .ok (.getfield 199, 3) := by decide +kernel
theorem dX12_token_8 : decode cX12_token 8 = .ok (.iload_n 1, 1) := by decide +kernel
theorem dX12_token_9 : decode cX12_token 9 = .ok (.iastore, 1) := by decide +kernel
theorem dX12_token_10 : decode cX12_token 10 = .ok (.aload_n 0, 1) := by decide +kernel
theorem dX12_token_11 : decode cX12_token 11 = .ok (.getfield 24, 3) := by decide +kernel
theorem dX12_token_14 : decode cX12_token 14 = .ok (.aload_n 0, 1) := by decide +kernel
theorem dX12_token_15 : decode cX12_token 15 = .ok (.getfield 199, 3) := by decide +kernel
theorem dX12_token_18 : decode cX12_token 18 = .ok (.iload_n 2, 1) := by decide +kernel
theorem dX12_token_19 : decode cX12_token 19 = .ok (.iastore, 1) := by decide +kernel
theorem dX12_token_20 : decode cX12_token 20 = .ok (.aload_n 0, 1) := by decide +kernel
theorem dX12_token_21 : decode cX12_token 21 = .ok (.getfield 27, 3) := by decide +kernel
theorem dX12_token_24 : decode cX12_token 24 = .ok (.aload_n 0, 1) := by decide +kernel
theorem dX12_token_25 : decode cX12_token 25 = .ok (.getfield 199, 3) := by decide +kernel
theorem dX12_token_28 : decode cX12_token 28 = .ok (.iload_n 3, 1) := by decide +kernel
theorem dX12_token_29 : decode cX12_token 29 = .ok (.iastore, 1) := by decide +kernel
theorem dX12_token_30 : decode cX12_token 30 = .ok (.aload_n 0, 1) := by decide +kernel
theorem dX12_token_31 : decode cX12_token 31 = .ok (.getfield 30, 3) := by decide +kernel
theorem dX12_token_34 : decode cX12_token 34 = .ok (.aload_n 0, 1) := by decide +kernel
theorem dX12_token_35 : decode cX12_token 35 = .ok (.getfield 199, 3) := by decide +kernel
theorem dX12_token_38 : decode cX12_token 38 = .ok (.lload 4, 2) := by decide +kernel
theorem dX12_token_40 : decode cX12_token 40 = .ok (.lastore, 1) := by decide +kernel
theorem dX12_token_41 : decode cX12_token 41 = .ok (.aload_n 0, 1) := by decide +kernel
theorem dX12_token_42 : decode cX12_token 42 = .ok (.dup, 1) := by decide +kernel
theorem dX12_token_43 : decode cX12_token 43 = .ok (.getfield 199, 3) := by decide +kernel
theorem dX12_token_46 : decode cX12_token 46 = .ok (.iconst 1, 1) := by decide +kernel
theorem dX12_token_47 : decode cX12_token 47 = .ok (.iadd, 1) := by decide +kernel
theorem dX12_token_48 : decode cX12_token 48 = .ok (.putfield 199, 3) := by decide +kernel
theorem dX12_token_51 : decode cX12_token 51 = .ok (.return_, 1) := by decide +kernel
theorem dX12_cutsUp_0 : decode cX12_cutsUp 0 = .ok (.aload_n 0, 1) := by decide +kernel
theorem dX12_cutsUp_1 : decode cX12_cutsUp 1 = .ok (.iconst 0, 1) := by decide +kernel
theorem dX12_cutsUp_2 : decode cX12_cutsUp 2 = .ok (.putfield 199, 3) := by decide +kernel
theorem dX12_cutsUp_5 : decode cX12_cutsUp 5 = .ok (.iconst 0, 1) := by decide +kernel
theorem dX12_cutsUp_6 : decode cX12_cutsUp 6 = .ok (.istore_n 1, 1) := by decide +kernel
theorem dX12_cutsUp_7 : decode cX12_cutsUp 7 = .ok (.aload_n 0, 1) := by decide +kernel
theorem dX12_cutsUp_8 : decode cX12_cutsUp 8 = .ok (.getfield 199, 3) := by decide +kernel
theorem dX12_cutsUp_11 : decode cX12_cutsUp 11 = .ok (.sipush 400, 3) := by decide +kernel
theorem dX12_cutsUp_14 : decode cX12_cutsUp 14 = .ok (.if_icmp .gt 280, 3) := by decide +kernel
theorem dX12_cutsUp_17 : decode cX12_cutsUp 17 = .ok (.aload_n 0, 1) := by decide +kernel
theorem dX12_cutsUp_18 : decode cX12_cutsUp 18 = .ok (.iload_n 1, 1) := by decide +kernel
theorem dX12_cutsUp_19 : decode cX12_cutsUp 19 = .ok (.invokevirtual 202, 3) := by decide +kernel
theorem dX12_cutsUp_22 : decode cX12_cutsUp 22 = .ok (.istore_n 2, 1) := by decide +kernel
theorem dX12_cutsUp_23 : decode cX12_cutsUp 23 = .ok (.iload_n 1, 1) := by decide +kernel
theorem dX12_cutsUp_24 : decode cX12_cutsUp 24 = .ok (.aload_n 0, 1) := by decide +kernel
theorem dX12_cutsUp_25 : decode cX12_cutsUp 25 = .ok (.getfield 190, 3) := by decide +kernel
theorem dX12_cutsUp_28 : decode cX12_cutsUp 28 = .ok (.if_icmp .lt 15, 3) := by decide +kernel
theorem dX12_cutsUp_31 : decode cX12_cutsUp 31 = .ok (.aload_n 0, 1) := by decide +kernel
theorem dX12_cutsUp_32 : decode cX12_cutsUp 32 = .ok (.iconst 0, 1) := by decide +kernel
theorem dX12_cutsUp_33 : decode cX12_cutsUp 33 = .ok (.aload_n 0, 1) := by decide +kernel
theorem dX12_cutsUp_34 : decode cX12_cutsUp 34 = .ok (.getfield 190, 3) := by decide +kernel
theorem dX12_cutsUp_37 : decode cX12_cutsUp 37 = .ok (.iconst 0, 1) := by decide +kernel
theorem dX12_cutsUp_38 : decode cX12_cutsUp 38 = .ok (.lconst 0, 1) := by decide +kernel
theorem dX12_cutsUp_39 : decode cX12_cutsUp 39 = .ok (.invokevirtual 206, 3) := by decide +kernel
theorem dX12_cutsUp_42 : decode cX12_cutsUp 42 = .ok (.return_, 1) := by decide +kernel
theorem dX12_cutsUp_43 : decode cX12_cutsUp 43 = .ok (.iload_n 2, 1) := by decide +kernel
theorem dX12_cutsUp_44 : decode cX12_cutsUp 44 = .ok (.bipush 9, 2) := by decide +kernel
theorem dX12_cutsUp_46 : decode cX12_cutsUp 46 = .ok (.if_icmp .eq 21, 3) := by decide +kernel
theorem dX12_cutsUp_49 : decode cX12_cutsUp 49 = .ok (.iload_n 2, 1) := by decide +kernel
theorem dX12_cutsUp_50 : decode cX12_cutsUp 50 = .ok (.bipush 10, 2) := by decide +kernel
theorem dX12_cutsUp_52 : decode cX12_cutsUp 52 = .ok (.if_icmp .eq 15, 3) := by decide +kernel
theorem dX12_cutsUp_55 : decode cX12_cutsUp 55 = .ok (.iload_n 2, 1) := by decide +kernel
theorem dX12_cutsUp_56 : decode cX12_cutsUp 56 = .ok (.bipush 13, 2) := by decide +kernel
theorem dX12_cutsUp_58 : decode cX12_cutsUp 58 = .ok (.if_icmp .eq 9, 3) := by decide +kernel
theorem dX12_cutsUp_61 : decode cX12_cutsUp 61 = .ok (.iload_n 2, 1) := by decide +kernel
theorem dX12_cutsUp_62 : decode cX12_cutsUp 62 = .ok (.bipush 32, 2) := by decide +kernel
theorem dX12_cutsUp_64 : decode cX12_cutsUp 64 = .ok (.if_icmp .ne 9, 3) := by decide +kernel
theorem dX12_cutsUp_67 : decode cX12_cutsUp 67 = .ok (.iinc 1 1, 3) := by decide +kernel
theorem dX12_cutsUp_70 : decode cX12_cutsUp 70 = .ok (.goto 221, 3) := by decide +kernel
theorem dX12_cutsUp_73 : decode cX12_cutsUp 73 = .ok (.iload_n 2, 1) := by decide +kernel
theorem dX12_cutsUp_74 : decode cX12_cutsUp 74 = .ok (.invokestatic 210, 3) := by decide +kernel
theorem dX12_cutsUp_77 : decode cX12_cutsUp 77 = .ok (.ifCond .eq 119, 3) := by decide +kernel
theorem dX12_cutsUp_80 : decode cX12_cutsUp 80 = .ok (.iconst 0, 1) := by decide +kernel
theorem dX12_cutsUp_81 : decode cX12_cutsUp 81 = .ok (.istore_n 3, 1) := by decide +kernel
theorem dX12_cutsUp_82 : decode cX12_cutsUp 82 = .ok (.lconst 0, 1) := by decide +kernel
theorem dX12_cutsUp_83 : decode cX12_cutsUp 83 = .ok (.lstore 4, 2) := by decide +kernel
theorem dX12_cutsUp_85 : decode cX12_cutsUp 85 = .ok (.aload_n 0, 1) := by decide +kernel
theorem dX12_cutsUp_86 : decode cX12_cutsUp 86 = .ok (.iload_n 1, 1) := by decide +kernel
theorem dX12_cutsUp_87 : decode cX12_cutsUp 87 = .ok (.iload_n 3, 1) := by decide +kernel
theorem dX12_cutsUp_88 : decode cX12_cutsUp 88 = .ok (.iadd, 1) := by decide +kernel
theorem dX12_cutsUp_89 : decode cX12_cutsUp 89 = .ok (.invokevirtual 202, 3) := by decide +kernel
theorem dX12_cutsUp_92 : decode cX12_cutsUp 92 = .ok (.invokestatic 210, 3) := by decide +kernel
theorem dX12_cutsUp_95 : decode cX12_cutsUp 95 = .ok (.ifCond .eq 29, 3) := by decide +kernel
theorem dX12_cutsUp_98 : decode cX12_cutsUp 98 = .ok (.iload_n 3, 1) := by decide +kernel
theorem dX12_cutsUp_99 : decode cX12_cutsUp 99 = .ok (.bipush 8, 2) := by decide +kernel
theorem dX12_cutsUp_101 : decode cX12_cutsUp 101 = .ok (.if_icmp .ge 17, 3) := by decide +kernel
theorem dX12_cutsUp_104 : decode cX12_cutsUp 104 = .ok (.lload 4, 2) := by decide +kernel
theorem dX12_cutsUp_106 : decode cX12_cutsUp 106 = .ok (.aload_n 0, 1) := by decide +kernel
theorem dX12_cutsUp_107 : decode cX12_cutsUp 107 = .ok (.iload_n 1, 1) := by decide +kernel
theorem dX12_cutsUp_108 : decode cX12_cutsUp 108 = .ok (.iload_n 3, 1) := by decide +kernel
theorem dX12_cutsUp_109 : decode cX12_cutsUp 109 = .ok (.iadd, 1) := by decide +kernel
theorem dX12_cutsUp_110 : decode cX12_cutsUp 110 = .ok (.invokevirtual 202, 3) := by decide +kernel
theorem dX12_cutsUp_113 : decode cX12_cutsUp 113 = .ok (.invokestatic 195, 3) := by decide +kernel
theorem dX12_cutsUp_116 : decode cX12_cutsUp 116 = .ok (.lstore 4, 2) := by decide +kernel
theorem dX12_cutsUp_118 : decode cX12_cutsUp 118 = .ok (.iinc 3 1, 3) := by decide +kernel
theorem dX12_cutsUp_121 : decode cX12_cutsUp 121 = .ok (.goto (-36), 3) := by decide +kernel
theorem dX12_cutsUp_124 : decode cX12_cutsUp 124 = .ok (.iload_n 3, 1) := by decide +kernel
theorem dX12_cutsUp_125 : decode cX12_cutsUp 125 = .ok (.bipush 8, 2) := by decide +kernel
theorem dX12_cutsUp_127 : decode cX12_cutsUp 127 = .ok (.if_icmp .le 7, 3) := by decide +kernel
theorem dX12_cutsUp_130 : decode cX12_cutsUp 130 = .ok (.iconst 3, 1) := by decide +kernel
theorem dX12_cutsUp_131 : decode cX12_cutsUp 131 = .ok (.goto 4, 3) := by decide +kernel
theorem dX12_cutsUp_134 : decode cX12_cutsUp 134 = .ok (.iconst 1, 1) := by decide +kernel
theorem dX12_cutsUp_135 : decode cX12_cutsUp 135 = .ok (.istore 6, 2) := by decide +kernel
theorem dX12_cutsUp_137 : decode cX12_cutsUp 137 = .ok (.iload_n 3, 1) := by decide +kernel
theorem dX12_cutsUp_138 : decode cX12_cutsUp 138 = .ok (.bipush 8, 2) := by decide +kernel
theorem dX12_cutsUp_140 : decode cX12_cutsUp 140 = .ok (.if_icmp .gt 39, 3) := by decide +kernel
theorem dX12_cutsUp_143 : decode cX12_cutsUp 143 = .ok (.iconst 0, 1) := by decide +kernel
theorem dX12_cutsUp_144 : decode cX12_cutsUp 144 = .ok (.istore 7, 2) := by decide +kernel
theorem dX12_cutsUp_146 : decode cX12_cutsUp 146 = .ok (.iload 7, 2) := by decide +kernel
theorem dX12_cutsUp_148 : decode cX12_cutsUp 148 = .ok (.bipush 23, 2) := by decide +kernel
theorem dX12_cutsUp_150 : decode cX12_cutsUp 150 = .ok (.if_icmp .ge 29, 3) := by decide +kernel
theorem dX12_cutsUp_153 : decode cX12_cutsUp 153 = .ok (.aload_n 0, 1) := by decide +kernel
theorem dX12_cutsUp_154 : decode cX12_cutsUp 154 = .ok (.getfield 34, 3) := by decide +kernel
theorem dX12_cutsUp_157 : decode cX12_cutsUp 157 = .ok (.iload 7, 2) := by decide +kernel
theorem dX12_cutsUp_159 : decode cX12_cutsUp 159 = .ok (.laload, 1) := by decide +kernel
theorem dX12_cutsUp_160 : decode cX12_cutsUp 160 = .ok (.lload 4, 2) := by decide +kernel
theorem dX12_cutsUp_162 : decode cX12_cutsUp 162 = .ok (.lcmp, 1) := by decide +kernel
theorem dX12_cutsUp_163 : decode cX12_cutsUp 163 = .ok (.ifCond .ne 10, 3) := by decide +kernel
theorem dX12_cutsUp_166 : decode cX12_cutsUp 166 = .ok (.bipush 20, 2) := by decide +kernel
theorem dX12_cutsUp_168 : decode cX12_cutsUp 168 = .ok (.iload 7, 2) := by decide +kernel
theorem dX12_cutsUp_170 : decode cX12_cutsUp 170 = .ok (.iadd, 1) := by decide +kernel
theorem dX12_cutsUp_171 : decode cX12_cutsUp 171 = .ok (.istore 6, 2) := by decide +kernel
theorem dX12_cutsUp_173 : decode cX12_cutsUp 173 = .ok (.iinc 7 1, 3) := by decide +kernel
theorem dX12_cutsUp_176 : decode cX12_cutsUp 176 = .ok (.goto (-30), 3) := by decide +kernel
theorem dX12_cutsUp_179 : decode cX12_cutsUp 179 = .ok (.aload_n 0, 1) := by decide +kernel
theorem dX12_cutsUp_180 : decode cX12_cutsUp 180 = .ok (.iload 6, 2) := by decide +kernel
theorem dX12_cutsUp_182 : decode cX12_cutsUp 182 = .ok (.iload_n 1, 1) := by decide +kernel
theorem dX12_cutsUp_183 : decode cX12_cutsUp 183 = .ok (.iconst 0, 1) := by decide +kernel
theorem dX12_cutsUp_184 : decode cX12_cutsUp 184 = .ok (.lload 4, 2) := by decide +kernel
theorem dX12_cutsUp_186 : decode cX12_cutsUp 186 = .ok (.invokevirtual 206, 3) := by decide +kernel
theorem dX12_cutsUp_189 : decode cX12_cutsUp 189 = .ok (.iload_n 1, 1) := by decide +kernel
theorem dX12_cutsUp_190 : decode cX12_cutsUp 190 = .ok (.iload_n 3, 1) := by decide +kernel
theorem dX12_cutsUp_191 : decode cX12_cutsUp 191 = .ok (.iadd, 1) := by decide +kernel
theorem dX12_cutsUp_192 : decode cX12_cutsUp 192 = .ok (.istore_n 1, 1) := by decide +kernel
theorem dX12_cutsUp_193 : decode cX12_cutsUp 193 = .ok (.goto 98, 3) := by decide +kernel
theorem dX12_cutsUp_196 : decode cX12_cutsUp 196 = .ok (.iload_n 2, 1) := by decide +kernel
theorem dX12_cutsUp_197 : decode cX12_cutsUp 197 = .ok (.invokestatic 214, 3) := by decide +kernel
theorem dX12_cutsUp_200 : decode cX12_cutsUp 200 = .ok (.ifCond .eq 75, 3) := by decide +kernel
theorem dX12_cutsUp_203 : decode cX12_cutsUp 203 = .ok (.iconst 0, 1) := by decide +kernel
theorem dX12_cutsUp_204 : decode cX12_cutsUp 204 = .ok (.istore_n 3, 1) := by decide +kernel
theorem dX12_cutsUp_205 : decode cX12_cutsUp 205 = .ok (.iconst 0, 1) := by decide +kernel
theorem dX12_cutsUp_206 : decode cX12_cutsUp 206 = .ok (.istore 4, 2) := by decide +kernel
theorem dX12_cutsUp_208 : decode cX12_cutsUp 208 = .ok (.aload_n 0, 1) := by decide +kernel
theorem dX12_cutsUp_209 : decode cX12_cutsUp 209 = .ok (.iload_n 1, 1) := by decide +kernel
theorem dX12_cutsUp_210 : decode cX12_cutsUp 210 = .ok (.iload_n 3, 1) := by decide +kernel
theorem dX12_cutsUp_211 : decode cX12_cutsUp 211 = .ok (.iadd, 1) := by decide +kernel
theorem dX12_cutsUp_212 : decode cX12_cutsUp 212 = .ok (.invokevirtual 202, 3) := by decide +kernel
theorem dX12_cutsUp_215 : decode cX12_cutsUp 215 = .ok (.invokestatic 214, 3) := by decide +kernel
theorem dX12_cutsUp_218 : decode cX12_cutsUp 218 = .ok (.ifCond .eq 32, 3) := by decide +kernel
theorem dX12_cutsUp_221 : decode cX12_cutsUp 221 = .ok (.iload_n 3, 1) := by decide +kernel
theorem dX12_cutsUp_222 : decode cX12_cutsUp 222 = .ok (.iconst 4, 1) := by decide +kernel
theorem dX12_cutsUp_223 : decode cX12_cutsUp 223 = .ok (.if_icmp .ge 21, 3) := by decide +kernel
theorem dX12_cutsUp_226 : decode cX12_cutsUp 226 = .ok (.bipush 10, 2) := by decide +kernel
theorem dX12_cutsUp_228 : decode cX12_cutsUp 228 = .ok (.iload 4, 2) := by decide +kernel
theorem dX12_cutsUp_230 : decode cX12_cutsUp 230 = .ok (.imul, 1) := by decide +kernel
theorem dX12_cutsUp_231 : decode cX12_cutsUp 231 = .ok (.aload_n 0, 1) := by decide +kernel
theorem dX12_cutsUp_232 : decode cX12_cutsUp 232 = .ok (.iload_n 1, 1) := by decide +kernel
theorem dX12_cutsUp_233 : decode cX12_cutsUp 233 = .ok (.iload_n 3, 1) := by decide +kernel
theorem dX12_cutsUp_234 : decode cX12_cutsUp 234 = .ok (.iadd, 1) := by decide +kernel
theorem dX12_cutsUp_235 : decode cX12_cutsUp 235 = .ok (.invokevirtual 202, 3) := by decide +kernel
theorem dX12_cutsUp_238 : decode cX12_cutsUp 238 = .ok (.iadd, 1) := by decide +kernel
theorem dX12_cutsUp_239 : decode cX12_cutsUp 239 = .ok (.bipush 48, 2) := by decide +kernel
theorem dX12_cutsUp_241 : decode cX12_cutsUp 241 = .ok (.isub, 1) := by decide +kernel
theorem dX12_cutsUp_242 : decode cX12_cutsUp 242 = .ok (.istore 4, 2) := by decide +kernel
theorem dX12_cutsUp_244 : decode cX12_cutsUp 244 = .ok (.iinc 3 1, 3) := by decide +kernel
theorem dX12_cutsUp_247 : decode cX12_cutsUp 247 = .ok (.goto (-39), 3) := by decide +kernel
theorem dX12_cutsUp_250 : decode cX12_cutsUp 250 = .ok (.aload_n 0, 1) := by decide +kernel
theorem dX12_cutsUp_251 : decode cX12_cutsUp 251 = .ok (.iload_n 3, 1) := by decide +kernel
theorem dX12_cutsUp_252 : decode cX12_cutsUp 252 = .ok (.iconst 4, 1) := by decide +kernel
theorem dX12_cutsUp_253 : decode cX12_cutsUp 253 = .ok (.if_icmp .le 7, 3) := by decide +kernel
theorem dX12_cutsUp_256 : decode cX12_cutsUp 256 = .ok (.iconst 3, 1) := by decide +kernel
theorem dX12_cutsUp_257 : decode cX12_cutsUp 257 = .ok (.goto 4, 3) := by decide +kernel
theorem dX12_cutsUp_260 : decode cX12_cutsUp 260 = .ok (.iconst 2, 1) := by decide +kernel
theorem dX12_cutsUp_261 : decode cX12_cutsUp 261 = .ok (.iload_n 1, 1) := by decide +kernel
theorem dX12_cutsUp_262 : decode cX12_cutsUp 262 = .ok (.iload 4, 2) := by decide +kernel
theorem dX12_cutsUp_264 : decode cX12_cutsUp 264 = .ok (.lconst 0, 1) := by decide +kernel
theorem dX12_cutsUp_265 : decode cX12_cutsUp 265 = .ok (.invokevirtual 206, 3) := by decide +kernel
theorem dX12_cutsUp_268 : decode cX12_cutsUp 268 = .ok (.iload_n 1, 1) := by decide +kernel
theorem dX12_cutsUp_269 : decode cX12_cutsUp 269 = .ok (.iload_n 3, 1) := by decide +kernel
theorem dX12_cutsUp_270 : decode cX12_cutsUp 270 = .ok (.iadd, 1) := by decide +kernel
theorem dX12_cutsUp_271 : decode cX12_cutsUp 271 = .ok (.istore_n 1, 1) := by decide +kernel
theorem dX12_cutsUp_272 : decode cX12_cutsUp 272 = .ok (.goto 19, 3) := by decide +kernel
theorem dX12_cutsUp_275 : decode cX12_cutsUp 275 = .ok (.iload_n 1, 1) := by decide +kernel
theorem dX12_cutsUp_276 : decode cX12_cutsUp 276 = .ok (.aload_n 0, 1) := by decide +kernel
theorem dX12_cutsUp_277 : decode cX12_cutsUp 277 = .ok (.iload_n 1, 1) := by decide +kernel
theorem dX12_cutsUp_278 : decode cX12_cutsUp 278 = .ok (.iload_n 2, 1) := by decide +kernel
theorem dX12_cutsUp_279 : decode cX12_cutsUp 279 = .ok (.aload_n 0, 1) := by decide +kernel
theorem dX12_cutsUp_280 : decode cX12_cutsUp 280 = .ok (.iload_n 1, 1) := by decide +kernel
theorem dX12_cutsUp_281 : decode cX12_cutsUp 281 = .ok (.iconst 1, 1) := by decide +kernel
theorem dX12_cutsUp_282 : decode cX12_cutsUp 282 = .ok (.iadd, 1) := by decide +kernel
theorem dX12_cutsUp_283 : decode cX12_cutsUp 283 = .ok (.invokevirtual 202, 3) := by decide +kernel
theorem dX12_cutsUp_286 : decode cX12_cutsUp 286 = .ok (.invokevirtual 217, 3) := by decide +kernel
theorem dX12_cutsUp_289 : decode cX12_cutsUp 289 = .ok (.iadd, 1) := by decide +kernel
theorem dX12_cutsUp_290 : decode cX12_cutsUp 290 = .ok (.istore_n 1, 1) := by decide +kernel
theorem dX12_cutsUp_291 : decode cX12_cutsUp 291 = .ok (.goto (-284), 3) := by decide +kernel
theorem dX12_cutsUp_294 : decode cX12_cutsUp 294 = .ok (.return_, 1) := by decide +kernel
theorem dX12_sign_0 : decode cX12_sign 0 = .ok (.iload_n 2, 1) := by decide +kernel
theorem dX12_sign_1 : decode cX12_sign 1 = .ok (.bipush 59, 2) := by decide +kernel
theorem dX12_sign_3 : decode cX12_sign 3 = .ok (.if_icmp .ne 7, 3) := by decide +kernel
theorem dX12_sign_6 : decode cX12_sign 6 = .ok (.iconst 4, 1) := by decide +kernel
theorem dX12_sign_7 : decode cX12_sign 7 = .ok (.goto 36, 3) := by decide +kernel
theorem dX12_sign_10 : decode cX12_sign 10 = .ok (.iload_n 2, 1) := by decide +kernel
theorem dX12_sign_11 : decode cX12_sign 11 = .ok (.bipush 61, 2) := by decide +kernel
theorem dX12_sign_13 : decode cX12_sign 13 = .ok (.if_icmp .ne 7, 3) := by decide +kernel
theorem dX12_sign_16 : decode cX12_sign 16 = .ok (.iconst 5, 1) := by decide +kernel
theorem dX12_sign_17 : decode cX12_sign 17 = .ok (.goto 26, 3) := by decide +kernel
theorem dX12_sign_20 : decode cX12_sign 20 = .ok (.iload_n 2, 1) := by decide +kernel
theorem dX12_sign_21 : decode cX12_sign 21 = .ok (.bipush 40, 2) := by decide +kernel
theorem dX12_sign_23 : decode cX12_sign 23 = .ok (.if_icmp .ne 8, 3) := by decide +kernel
theorem dX12_sign_26 : decode cX12_sign 26 = .ok (.bipush 6, 2) := by decide +kernel
theorem dX12_sign_28 : decode cX12_sign 28 = .ok (.goto 15, 3) := by decide +kernel
theorem dX12_sign_31 : decode cX12_sign 31 = .ok (.iload_n 2, 1) := by decide +kernel

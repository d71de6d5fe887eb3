-- decode rows, by program (wip/whole/gen/emit_names.py)
theorem dX12_sign_32 : decode cX12_sign 32 = .ok (.bipush 41, 2) := by decide +kernel
theorem dX12_sign_34 : decode cX12_sign 34 = .ok (.if_icmp .ne 8, 3) := by decide +kernel
theorem dX12_sign_37 : decode cX12_sign 37 = .ok (.bipush 7, 2) := by decide +kernel
theorem dX12_sign_39 : decode cX12_sign 39 = .ok (.goto 4, 3) := by decide +kernel
theorem dX12_sign_42 : decode cX12_sign 42 = .ok (.iconst 3, 1) := by decide +kernel
theorem dX12_sign_43 : decode cX12_sign 43 = .ok (.istore 4, 2) := by decide +kernel
theorem dX12_sign_45 : decode cX12_sign 45 = .ok (.iload_n 2, 1) := by decide +kernel
theorem dX12_sign_46 : decode cX12_sign 46 = .ok (.bipush 43, 2) := by decide +kernel
theorem dX12_sign_48 : decode cX12_sign 48 = .ok (.if_icmp .ne 7, 3) := by decide +kernel
theorem dX12_sign_51 : decode cX12_sign 51 = .ok (.bipush 8, 2) := by decide +kernel
theorem dX12_sign_53 : decode cX12_sign 53 = .ok (.istore 4, 2) := by decide +kernel
theorem dX12_sign_55 : decode cX12_sign 55 = .ok (.iload_n 2, 1) := by decide +kernel
theorem dX12_sign_56 : decode cX12_sign 56 = .ok (.bipush 45, 2) := by decide +kernel
theorem dX12_sign_58 : decode cX12_sign 58 = .ok (.if_icmp .ne 7, 3) := by decide +kernel
theorem dX12_sign_61 : decode cX12_sign 61 = .ok (.bipush 9, 2) := by decide +kernel
theorem dX12_sign_63 : decode cX12_sign 63 = .ok (.istore 4, 2) := by decide +kernel
theorem dX12_sign_65 : decode cX12_sign 65 = .ok (.iload_n 2, 1) := by decide +kernel
theorem dX12_sign_66 : decode cX12_sign 66 = .ok (.bipush 42, 2) := by decide +kernel
theorem dX12_sign_68 : decode cX12_sign 68 = .ok (.if_icmp .ne 7, 3) := by decide +kernel
theorem dX12_sign_71 : decode cX12_sign 71 = .ok (.bipush 10, 2) := by decide +kernel
theorem dX12_sign_73 : decode cX12_sign 73 = .ok (.istore 4, 2) := by decide +kernel
theorem dX12_sign_75 : decode cX12_sign 75 = .ok (.iload_n 2, 1) := by decide +kernel
theorem dX12_sign_76 : decode cX12_sign 76 = .ok (.bipush 47, 2) := by decide +kernel
theorem dX12_sign_78 : decode cX12_sign 78 = .ok (.if_icmp .ne 7, 3) := by decide +kernel
theorem dX12_sign_81 : decode cX12_sign 81 = .ok (.bipush 15, 2) := by decide +kernel
theorem dX12_sign_83 : decode cX12_sign 83 = .ok (.istore 4, 2) := by decide +kernel
theorem dX12_sign_85 : decode cX12_sign 85 = .ok (.iload_n 2, 1) := by decide +kernel
theorem dX12_sign_86 : decode cX12_sign 86 = .ok (.bipush 60, 2) := by decide +kernel
theorem dX12_sign_88 : decode cX12_sign 88 = .ok (.if_icmp .ne 7, 3) := by decide +kernel
theorem dX12_sign_91 : decode cX12_sign 91 = .ok (.bipush 13, 2) := by decide +kernel
theorem dX12_sign_93 : decode cX12_sign 93 = .ok (.istore 4, 2) := by decide +kernel
theorem dX12_sign_95 : decode cX12_sign 95 = .ok (.aload_n 0, 1) := by decide +kernel
theorem dX12_sign_96 : decode cX12_sign 96 = .ok (.iload 4, 2) := by decide +kernel
theorem dX12_sign_98 : decode cX12_sign 98 = .ok (.iload_n 1, 1) := by decide +kernel
theorem dX12_sign_99 : decode cX12_sign 99 = .ok (.iconst 0, 1) := by decide +kernel
theorem dX12_sign_100 : decode cX12_sign 100 = .ok (.lconst 0, 1) := by decide +kernel
theorem dX12_sign_101 : decode cX12_sign 101 = .ok (.invokevirtual 206, 3) := by decide +kernel
theorem dX12_sign_104 : decode cX12_sign 104 = .ok (.iconst 1, 1) := by decide +kernel
theorem dX12_sign_105 : decode cX12_sign 105 = .ok (.ireturn, 1) := by decide +kernel
theorem dX12_is_0 : decode cX12_is 0 = .ok (.aload_n 0, 1) := by decide +kernel
theorem dX12_is_1 : decode cX12_is 1 = .ok (.getfield 221, 3) := by decide +kernel
theorem dX12_is_4 : decode cX12_is 4 = .ok (.ifCond .ne 20, 3) := by decide +kernel
theorem dX12_is_7 : decode cX12_is 7 = .ok (.aload_n 0, 1) := by decide +kernel
theorem dX12_is_8 : decode cX12_is 8 = .ok (.getfield 20, 3) := by decide +kernel
theorem dX12_is_11 : decode cX12_is 11 = .ok (.aload_n 0, 1) := by decide +kernel
theorem dX12_is_12 : decode cX12_is 12 = .ok (.getfield 224, 3) := by decide +kernel
theorem dX12_is_15 : decode cX12_is 15 = .ok (.iaload, 1) := by decide +kernel
theorem dX12_is_16 : decode cX12_is 16 = .ok (.iload_n 1, 1) := by decide +kernel
theorem dX12_is_17 : decode cX12_is 17 = .ok (.if_icmp .ne 7, 3) := by decide +kernel
theorem dX12_is_20 : decode cX12_is 20 = .ok (.iconst 1, 1) := by decide +kernel
theorem dX12_is_21 : decode cX12_is 21 = .ok (.goto 4, 3) := by decide +kernel
theorem dX12_is_24 : decode cX12_is 24 = .ok (.iconst 0, 1) := by decide +kernel
theorem dX12_is_25 : decode cX12_is 25 = .ok (.ireturn, 1) := by decide +kernel
theorem dX12_fail_0 : decode cX12_fail 0 = .ok (.aload_n 0, 1) := by decide +kernel
theorem dX12_fail_1 : decode cX12_fail 1 = .ok (.getfield 221, 3) := by decide +kernel
theorem dX12_fail_4 : decode cX12_fail 4 = .ok (.ifCond .le 4, 3) := by decide +kernel
theorem dX12_fail_7 : decode cX12_fail 7 = .ok (.return_, 1) := by decide +kernel
theorem dX12_fail_8 : decode cX12_fail 8 = .ok (.aload_n 0, 1) := by decide +kernel
theorem dX12_fail_9 : decode cX12_fail 9 = .ok (.iload_n 1, 1) := by decide +kernel
theorem dX12_fail_10 : decode cX12_fail 10 = .ok (.putfield 221, 3) := by decide +kernel
theorem dX12_fail_13 : decode cX12_fail 13 = .ok (.aload_n 0, 1) := by decide +kernel
theorem dX12_fail_14 : decode cX12_fail 14 = .ok (.aload_n 0, 1) := by decide +kernel
theorem dX12_fail_15 : decode cX12_fail 15 = .ok (.getfield 24, 3) := by decide +kernel
theorem dX12_fail_18 : decode cX12_fail 18 = .ok (.aload_n 0, 1) := by decide +kernel
theorem dX12_fail_19 : decode cX12_fail 19 = .ok (.getfield 224, 3) := by decide +kernel
theorem dX12_fail_22 : decode cX12_fail 22 = .ok (.iaload, 1) := by decide +kernel
theorem dX12_fail_23 : decode cX12_fail 23 = .ok (.putfield 227, 3) := by decide +kernel
theorem dX12_fail_26 : decode cX12_fail 26 = .ok (.return_, 1) := by decide +kernel
theorem dX12_wrong_0 : decode cX12_wrong 0 = .ok (.aload_n 0, 1) := by decide +kernel
theorem dX12_wrong_1 : decode cX12_wrong 1 = .ok (.getfield 24, 3) := by decide +kernel
theorem dX12_wrong_4 : decode cX12_wrong 4 = .ok (.iload_n 2, 1) := by decide +kernel
theorem dX12_wrong_5 : decode cX12_wrong 5 = .ok (.iaload, 1) := by decide +kernel
theorem dX12_wrong_6 : decode cX12_wrong 6 = .ok (.istore_n 3, 1) := by decide +kernel
theorem dX12_wrong_7 : decode cX12_wrong 7 = .ok (.aload_n 0, 1) := by decide +kernel
theorem dX12_wrong_8 : decode cX12_wrong 8 = .ok (.getfield 221, 3) := by decide +kernel
theorem dX12_wrong_11 : decode cX12_wrong 11 = .ok (.ifCond .gt 34, 3) := by decide +kernel
theorem dX12_wrong_14 : decode cX12_wrong 14 = .ok (.aload_n 0, 1) := by decide +kernel
theorem dX12_wrong_15 : decode cX12_wrong 15 = .ok (.getfield 230, 3) := by decide +kernel
theorem dX12_wrong_18 : decode cX12_wrong 18 = .ok (.ifCond .eq 28, 3) := by decide +kernel
theorem dX12_wrong_21 : decode cX12_wrong 21 = .ok (.iload_n 3, 1) := by decide +kernel
theorem dX12_wrong_22 : decode cX12_wrong 22 = .ok (.aload_n 0, 1) := by decide +kernel
theorem dX12_wrong_23 : decode cX12_wrong 23 = .ok (.getfield 233, 3) := by decide +kernel
theorem dX12_wrong_26 : decode cX12_wrong 26 = .ok (.if_icmp .gt 19, 3) := by decide +kernel
theorem dX12_wrong_29 : decode cX12_wrong 29 = .ok (.iload_n 3, 1) := by decide +kernel
theorem dX12_wrong_30 : decode cX12_wrong 30 = .ok (.aload_n 0, 1) := by decide +kernel
theorem dX12_wrong_31 : decode cX12_wrong 31 = .ok (.getfield 233, 3) := by decide +kernel
theorem dX12_wrong_34 : decode cX12_wrong 34 = .ok (.if_icmp .ne 12, 3) := by decide +kernel
theorem dX12_wrong_37 : decode cX12_wrong 37 = .ok (.iload_n 1, 1) := by decide +kernel
theorem dX12_wrong_38 : decode cX12_wrong 38 = .ok (.aload_n 0, 1) := by decide +kernel
theorem dX12_wrong_39 : decode cX12_wrong 39 = .ok (.getfield 230, 3) := by decide +kernel
theorem dX12_wrong_42 : decode cX12_wrong 42 = .ok (.if_icmp .lt 4, 3) := by decide +kernel
theorem dX12_wrong_45 : decode cX12_wrong 45 = .ok (.return_, 1) := by decide +kernel
theorem dX12_wrong_46 : decode cX12_wrong 46 = .ok (.aload_n 0, 1) := by decide +kernel
theorem dX12_wrong_47 : decode cX12_wrong 47 = .ok (.iload_n 1, 1) := by decide +kernel
theorem dX12_wrong_48 : decode cX12_wrong 48 = .ok (.putfield 230, 3) := by decide +kernel
theorem dX12_wrong_51 : decode cX12_wrong 51 = .ok (.aload_n 0, 1) := by decide +kernel
theorem dX12_wrong_52 : decode cX12_wrong 52 = .ok (.iload_n 3, 1) := by decide +kernel
theorem dX12_wrong_53 : decode cX12_wrong 53 = .ok (.putfield 233, 3) := by decide +kernel
theorem dX12_wrong_56 : decode cX12_wrong 56 = .ok (.return_, 1) := by decide +kernel
theorem dX12_goesOn_0 : decode cX12_goesOn 0 = .ok (.aload_n 0, 1) := by decide +kernel
theorem dX12_goesOn_1 : decode cX12_goesOn 1 = .ok (.getfield 224, 3) := by decide +kernel
theorem dX12_goesOn_4 : decode cX12_goesOn 4 = .ok (.sipush 400, 3) := by decide +kernel
theorem dX12_goesOn_7 : decode cX12_goesOn 7 = .ok (.if_icmp .ne 11, 3) := by decide +kernel
theorem dX12_goesOn_10 : decode cX12_goesOn 10 = .ok (.aload_n 0, 1) := by decide +kernel
theorem dX12_goesOn_11 : decode cX12_goesOn 11 = .ok (.iconst 2, 1) := by decide +kernel
theorem dX12_goesOn_12 : decode cX12_goesOn 12 = .ok (.invokevirtual 236, 3) := by decide +kernel
theorem dX12_goesOn_15 : decode cX12_goesOn 15 = .ok (.goto 13, 3) := by decide +kernel
theorem dX12_goesOn_18 : decode cX12_goesOn 18 = .ok (.aload_n 0, 1) := by decide +kernel
theorem dX12_goesOn_19 : decode cX12_goesOn 19 = .ok (.dup, 1) := by decide +kernel
theorem dX12_goesOn_20 : decode cX12_goesOn 20 = .ok (.getfield 224, 3) := by decide +kernel
theorem dX12_goesOn_23 : decode cX12_goesOn 23 = .ok (.iconst 1, 1) := by decide +kernel
theorem dX12_goesOn_24 : decode cX12_goesOn 24 = .ok (.iadd, 1) := by decide +kernel
theorem dX12_goesOn_25 : decode cX12_goesOn 25 = .ok (.putfield 224, 3) := by decide +kernel
theorem dX12_goesOn_28 : decode cX12_goesOn 28 = .ok (.return_, 1) := by decide +kernel
theorem dX12_must_0 : decode cX12_must 0 = .ok (.aload_n 0, 1) := by decide +kernel
theorem dX12_must_1 : decode cX12_must 1 = .ok (.iload_n 1, 1) := by decide +kernel
theorem dX12_must_2 : decode cX12_must 2 = .ok (.invokevirtual 239, 3) := by decide +kernel
theorem dX12_must_5 : decode cX12_must 5 = .ok (.ifCond .eq 10, 3) := by decide +kernel
theorem dX12_must_8 : decode cX12_must 8 = .ok (.aload_n 0, 1) := by decide +kernel
theorem dX12_must_9 : decode cX12_must 9 = .ok (.invokevirtual 242, 3) := by decide +kernel
theorem dX12_must_12 : decode cX12_must 12 = .ok (.goto 8, 3) := by decide +kernel
theorem dX12_must_15 : decode cX12_must 15 = .ok (.aload_n 0, 1) := by decide +kernel
theorem dX12_must_16 : decode cX12_must 16 = .ok (.iconst 1, 1) := by decide +kernel
theorem dX12_must_17 : decode cX12_must 17 = .ok (.invokevirtual 236, 3) := by decide +kernel
theorem dX12_must_20 : decode cX12_must 20 = .ok (.return_, 1) := by decide +kernel
theorem dX12_plain_0 : decode cX12_plain 0 = .ok (.aload_n 0, 1) := by decide +kernel
theorem dX12_plain_1 : decode cX12_plain 1 = .ok (.getfield 46, 3) := by decide +kernel
theorem dX12_plain_4 : decode cX12_plain 4 = .ok (.iload_n 1, 1) := by decide +kernel
theorem dX12_plain_5 : decode cX12_plain 5 = .ok (.iconst 0, 1) := by decide +kernel
theorem dX12_plain_6 : decode cX12_plain 6 = .ok (.iastore, 1) := by decide +kernel
theorem dX12_plain_7 : decode cX12_plain 7 = .ok (.aload_n 0, 1) := by decide +kernel
theorem dX12_plain_8 : decode cX12_plain 8 = .ok (.getfield 49, 3) := by decide +kernel
theorem dX12_plain_11 : decode cX12_plain 11 = .ok (.iload_n 1, 1) := by decide +kernel
theorem dX12_plain_12 : decode cX12_plain 12 = .ok (.iconst 0, 1) := by decide +kernel
theorem dX12_plain_13 : decode cX12_plain 13 = .ok (.iastore, 1) := by decide +kernel
theorem dX12_plain_14 : decode cX12_plain 14 = .ok (.aload_n 0, 1) := by decide +kernel
theorem dX12_plain_15 : decode cX12_plain 15 = .ok (.getfield 61, 3) := by decide +kernel
theorem dX12_plain_18 : decode cX12_plain 18 = .ok (.iload_n 1, 1) := by decide +kernel
theorem dX12_plain_19 : decode cX12_plain 19 = .ok (.iconst 0, 1) := by decide +kernel
theorem dX12_plain_20 : decode cX12_plain 20 = .ok (.iastore, 1) := by decide +kernel
theorem dX12_plain_21 : decode cX12_plain 21 = .ok (.aload_n 0, 1) := by decide +kernel
theorem dX12_plain_22 : decode cX12_plain 22 = .ok (.getfield 73, 3) := by decide +kernel
theorem dX12_plain_25 : decode cX12_plain 25 = .ok (.iload_n 1, 1) := by decide +kernel
theorem dX12_plain_26 : decode cX12_plain 26 = .ok (.iconst 0, 1) := by decide +kernel
theorem dX12_plain_27 : decode cX12_plain 27 = .ok (.iastore, 1) := by decide +kernel
theorem dX12_plain_28 : decode cX12_plain 28 = .ok (.aload_n 0, 1) := by decide +kernel
theorem dX12_plain_29 : decode cX12_plain 29 = .ok (.getfield 79, 3) := by decide +kernel
theorem dX12_plain_32 : decode cX12_plain 32 = .ok (.iload_n 1, 1) := by decide +kernel
theorem dX12_plain_33 : decode cX12_plain 33 = .ok (.iconst 0, 1) := by decide +kernel
theorem dX12_plain_34 : decode cX12_plain 34 = .ok (.iastore, 1) := by decide +kernel
theorem dX12_plain_35 : decode cX12_plain 35 = .ok (.aload_n 0, 1) := by decide +kernel
theorem dX12_plain_36 : decode cX12_plain 36 = .ok (.getfield 82, 3) := by decide +kernel
theorem dX12_plain_39 : decode cX12_plain 39 = .ok (.iload_n 1, 1) := by decide +kernel
theorem dX12_plain_40 : decode cX12_plain 40 = .ok (.iconst 0, 1) := by decide +kernel
theorem dX12_plain_41 : decode cX12_plain 41 = .ok (.iastore, 1) := by decide +kernel
theorem dX12_plain_42 : decode cX12_plain 42 = .ok (.aload_n 0, 1) := by decide +kernel
theorem dX12_plain_43 : decode cX12_plain 43 = .ok (.getfield 85, 3) := by decide +kernel
theorem dX12_plain_46 : decode cX12_plain 46 = .ok (.iload_n 1, 1) := by decide +kernel
theorem dX12_plain_47 : decode cX12_plain 47 = .ok (.iconst 0, 1) := by decide +kernel
theorem dX12_plain_48 : decode cX12_plain 48 = .ok (.iastore, 1) := by decide +kernel
theorem dX12_plain_49 : decode cX12_plain 49 = .ok (.iconst 0, 1) := by decide +kernel
theorem dX12_plain_50 : decode cX12_plain 50 = .ok (.istore_n 2, 1) := by decide +kernel
theorem dX12_plain_51 : decode cX12_plain 51 = .ok (.iload_n 2, 1) := by decide +kernel
theorem dX12_plain_52 : decode cX12_plain 52 = .ok (.iconst 4, 1) := by decide +kernel
theorem dX12_plain_53 : decode cX12_plain 53 = .ok (.if_icmp .ge 31, 3) := by decide +kernel
theorem dX12_plain_56 : decode cX12_plain 56 = .ok (.aload_n 0, 1) := by decide +kernel
theorem dX12_plain_57 : decode cX12_plain 57 = .ok (.getfield 88, 3) := by decide +kernel
theorem dX12_plain_60 : decode cX12_plain 60 = .ok (.iconst 4, 1) := by decide +kernel
theorem dX12_plain_61 : decode cX12_plain 61 = .ok (.iload_n 1, 1) := by decide +kernel
theorem dX12_plain_62 : decode cX12_plain 62 = .ok (.imul, 1) := by decide +kernel
theorem dX12_plain_63 : decode cX12_plain 63 = .ok (.iload_n 2, 1) := by decide +kernel
theorem dX12_plain_64 : decode cX12_plain 64 = .ok (.iadd, 1) := by decide +kernel
theorem dX12_plain_65 : decode cX12_plain 65 = .ok (.iconst 0, 1) := by decide +kernel
theorem dX12_plain_66 : decode cX12_plain 66 = .ok (.iastore, 1) := by decide +kernel
theorem dX12_plain_67 : decode cX12_plain 67 = .ok (.aload_n 0, 1) := by decide +kernel
theorem dX12_plain_68 : decode cX12_plain 68 = .ok (.getfield 91, 3) := by decide +kernel
theorem dX12_plain_71 : decode cX12_plain 71 = .ok (.iconst 4, 1) := by decide +kernel
theorem dX12_plain_72 : decode cX12_plain 72 = .ok (.iload_n 1, 1) := by decide +kernel
theorem dX12_plain_73 : decode cX12_plain 73 = .ok (.imul, 1) := by decide +kernel
theorem dX12_plain_74 : decode cX12_plain 74 = .ok (.iload_n 2, 1) := by decide +kernel
theorem dX12_plain_75 : decode cX12_plain 75 = .ok (.iadd, 1) := by decide +kernel
theorem dX12_plain_76 : decode cX12_plain 76 = .ok (.iconst 0, 1) := by decide +kernel
theorem dX12_plain_77 : decode cX12_plain 77 = .ok (.iastore, 1) := by decide +kernel
theorem dX12_plain_78 : decode cX12_plain 78 = .ok (.iinc 2 1, 3) := by decide +kernel
theorem dX12_plain_81 : decode cX12_plain 81 = .ok (.goto (-30), 3) := by decide +kernel
theorem dX12_plain_84 : decode cX12_plain 84 = .ok (.return_, 1) := by decide +kernel
theorem dX12_read_0 : decode cX12_read 0 = .ok (.aload_n 0, 1) := by decide +kernel
theorem dX12_read_1 : decode cX12_read 1 = .ok (.aload_n 0, 1) := by decide +kernel
theorem dX12_read_2 : decode cX12_read 2 = .ok (.getfield 184, 3) := by decide +kernel
theorem dX12_read_5 : decode cX12_read 5 = .ok (.putfield 190, 3) := by decide +kernel
theorem dX12_read_8 : decode cX12_read 8 = .ok (.iconst 0, 1) := by decide +kernel
theorem dX12_read_9 : decode cX12_read 9 = .ok (.istore_n 1, 1) := by decide +kernel
theorem dX12_read_10 : decode cX12_read 10 = .ok (.iload_n 1, 1) := by decide +kernel
theorem dX12_read_11 : decode cX12_read 11 = .ok (.aload_n 0, 1) := by decide +kernel
theorem dX12_read_12 : decode cX12_read 12 = .ok (.getfield 190, 3) := by decide +kernel
theorem dX12_read_15 : decode cX12_read 15 = .ok (.if_icmp .ge 21, 3) := by decide +kernel
theorem dX12_read_18 : decode cX12_read 18 = .ok (.aload_n 0, 1) := by decide +kernel
theorem dX12_read_19 : decode cX12_read 19 = .ok (.getfield 17, 3) := by decide +kernel
theorem dX12_read_22 : decode cX12_read 22 = .ok (.iload_n 1, 1) := by decide +kernel
theorem dX12_read_23 : decode cX12_read 23 = .ok (.aload_n 0, 1) := by decide +kernel
theorem dX12_read_24 : decode cX12_read 24 = .ok (.getfield 13, 3) := by decide +kernel
theorem dX12_read_27 : decode cX12_read 27 = .ok (.iload_n 1, 1) := by decide +kernel
theorem dX12_read_28 : decode cX12_read 28 = .ok (.baload, 1) := by decide +kernel
theorem dX12_read_29 : decode cX12_read 29 = .ok (.bastore, 1) := by decide +kernel
theorem dX12_read_30 : decode cX12_read 30 = .ok (.iinc 1 1, 3) := by decide +kernel
theorem dX12_read_33 : decode cX12_read 33 = .ok (.goto (-23), 3) := by decide +kernel
theorem dX12_read_36 : decode cX12_read 36 = .ok (.aload_n 0, 1) := by decide +kernel
theorem dX12_read_37 : decode cX12_read 37 = .ok (.iconst 0, 1) := by decide +kernel
theorem dX12_read_38 : decode cX12_read 38 = .ok (.putfield 184, 3) := by decide +kernel
theorem dX12_read_41 : decode cX12_read 41 = .ok (.aload_n 0, 1) := by decide +kernel
theorem dX12_read_42 : decode cX12_read 42 = .ok (.invokevirtual 245, 3) := by decide +kernel
theorem dX12_read_45 : decode cX12_read 45 = .ok (.aload_n 0, 1) := by decide +kernel
theorem dX12_read_46 : decode cX12_read 46 = .ok (.iconst 0, 1) := by decide +kernel
theorem dX12_read_47 : decode cX12_read 47 = .ok (.putfield 224, 3) := by decide +kernel
theorem dX12_read_50 : decode cX12_read 50 = .ok (.aload_n 0, 1) := by decide +kernel
theorem dX12_read_51 : decode cX12_read 51 = .ok (.iconst 0, 1) := by decide +kernel
theorem dX12_read_52 : decode cX12_read 52 = .ok (.putfield 248, 3) := by decide +kernel
theorem dX12_read_55 : decode cX12_read 55 = .ok (.aload_n 0, 1) := by decide +kernel
theorem dX12_read_56 : decode cX12_read 56 = .ok (.iconst 0, 1) := by decide +kernel
theorem dX12_read_57 : decode cX12_read 57 = .ok (.putfield 221, 3) := by decide +kernel
theorem dX12_read_60 : decode cX12_read 60 = .ok (.aload_n 0, 1) := by decide +kernel
theorem dX12_read_61 : decode cX12_read 61 = .ok (.iconst 0, 1) := by decide +kernel
theorem dX12_read_62 : decode cX12_read 62 = .ok (.putfield 230, 3) := by decide +kernel
theorem dX12_read_65 : decode cX12_read 65 = .ok (.aload_n 0, 1) := by decide +kernel
theorem dX12_read_66 : decode cX12_read 66 = .ok (.iconst 1, 1) := by decide +kernel
theorem dX12_read_67 : decode cX12_read 67 = .ok (.aload_n 0, 1) := by decide +kernel
theorem dX12_read_68 : decode cX12_read 68 = .ok (.getfield 251, 3) := by decide +kernel
theorem dX12_read_71 : decode cX12_read 71 = .ok (.isub, 1) := by decide +kernel
theorem dX12_read_72 : decode cX12_read 72 = .ok (.putfield 254, 3) := by decide +kernel
theorem dX12_read_75 : decode cX12_read 75 = .ok (.aload_n 0, 1) := by decide +kernel
theorem dX12_read_76 : decode cX12_read 76 = .ok (.iconst 0, 1) := by decide +kernel
theorem dX12_read_77 : decode cX12_read 77 = .ok (.putfield 257, 3) := by decide +kernel
theorem dX12_read_80 : decode cX12_read 80 = .ok (.aload_n 0, 1) := by decide +kernel
theorem dX12_read_81 : decode cX12_read 81 = .ok (.aload_n 0, 1) := by decide +kernel
theorem dX12_read_82 : decode cX12_read 82 = .ok (.getfield 254, 3) := by decide +kernel
theorem dX12_read_85 : decode cX12_read 85 = .ok (.invokevirtual 170, 3) := by decide +kernel
theorem dX12_read_88 : decode cX12_read 88 = .ok (.aload_n 0, 1) := by decide +kernel
theorem dX12_read_89 : decode cX12_read 89 = .ok (.sipush 130, 3) := by decide +kernel
theorem dX12_read_92 : decode cX12_read 92 = .ok (.aload_n 0, 1) := by decide +kernel
theorem dX12_read_93 : decode cX12_read 93 = .ok (.getfield 254, 3) := by decide +kernel
theorem dX12_read_96 : decode cX12_read 96 = .ok (.imul, 1) := by decide +kernel
theorem dX12_read_97 : decode cX12_read 97 = .ok (.putfield 260, 3) := by decide +kernel
theorem dX12_read_100 : decode cX12_read 100 = .ok (.aload_n 0, 1) := by decide +kernel
theorem dX12_read_101 : decode cX12_read 101 = .ok (.sipush 420, 3) := by decide +kernel
theorem dX12_read_104 : decode cX12_read 104 = .ok (.aload_n 0, 1) := by decide +kernel
theorem dX12_read_105 : decode cX12_read 105 = .ok (.getfield 254, 3) := by decide +kernel
theorem dX12_read_108 : decode cX12_read 108 = .ok (.imul, 1) := by decide +kernel
theorem dX12_read_109 : decode cX12_read 109 = .ok (.putfield 263, 3) := by decide +kernel
theorem dX12_read_112 : decode cX12_read 112 = .ok (.aload_n 0, 1) := by decide +kernel
theorem dX12_read_113 : decode cX12_read 113 = .ok (.getfield 221, 3) := by decide +kernel
theorem dX12_read_116 : decode cX12_read 116 = .ok (.ifCond .ne 18, 3) := by decide +kernel
theorem dX12_read_119 : decode cX12_read 119 = .ok (.aload_n 0, 1) := by decide +kernel
theorem dX12_read_120 : decode cX12_read 120 = .ok (.iconst 0, 1) := by decide +kernel
theorem dX12_read_121 : decode cX12_read 121 = .ok (.invokevirtual 239, 3) := by decide +kernel
theorem dX12_read_124 : decode cX12_read 124 = .ok (.ifCond .ne 10, 3) := by decide +kernel
theorem dX12_read_127 : decode cX12_read 127 = .ok (.aload_n 0, 1) := by decide +kernel
theorem dX12_read_128 : decode cX12_read 128 = .ok (.invokevirtual 266, 3) := by decide +kernel
theorem dX12_read_131 : decode cX12_read 131 = .ok (.goto (-19), 3) := by decide +kernel
theorem dX12_read_134 : decode cX12_read 134 = .ok (.aload_n 0, 1) := by decide +kernel
theorem dX12_read_135 : decode cX12_read 135 = .ok (.aload_n 0, 1) := by decide +kernel
theorem dX12_read_136 : decode cX12_read 136 = .ok (.getfield 221, 3) := by decide +kernel
theorem dX12_read_139 : decode cX12_read 139 = .ok (.ifCond .le 10, 3) := by decide +kernel
theorem dX12_read_142 : decode cX12_read 142 = .ok (.aload_n 0, 1) := by decide +kernel
theorem dX12_read_143 : decode cX12_read 143 = .ok (.getfield 227, 3) := by decide +kernel
theorem dX12_read_146 : decode cX12_read 146 = .ok (.goto 18, 3) := by decide +kernel
theorem dX12_read_149 : decode cX12_read 149 = .ok (.aload_n 0, 1) := by decide +kernel
theorem dX12_read_150 : decode cX12_read 150 = .ok (.getfield 230, 3) := by decide +kernel
theorem dX12_read_153 : decode cX12_read 153 = .ok (.ifCond .le 10, 3) := by decide +kernel
theorem dX12_read_156 : decode cX12_read 156 = .ok (.aload_n 0, 1) := by decide +kernel
theorem dX12_read_157 : decode cX12_read 157 = .ok (.getfield 233, 3) := by decide +kernel
theorem dX12_read_160 : decode cX12_read 160 = .ok (.goto 4, 3) := by decide +kernel
theorem dX12_read_163 : decode cX12_read 163 = .ok (.iconst (-1), 1) := by decide +kernel
theorem dX12_read_164 : decode cX12_read 164 = .ok (.putfield 37, 3) := by decide +kernel
theorem dX12_read_167 : decode cX12_read 167 = .ok (.aload_n 0, 1) := by decide +kernel
theorem dX12_read_168 : decode cX12_read 168 = .ok (.getfield 221, 3) := by decide +kernel
theorem dX12_read_171 : decode cX12_read 171 = .ok (.ifCond .le 8, 3) := by decide +kernel
theorem dX12_read_174 : decode cX12_read 174 = .ok (.aload_n 0, 1) := by decide +kernel
theorem dX12_read_175 : decode cX12_read 175 = .ok (.getfield 221, 3) := by decide +kernel
theorem dX12_read_178 : decode cX12_read 178 = .ok (.ireturn, 1) := by decide +kernel
theorem dX12_read_179 : decode cX12_read 179 = .ok (.aload_n 0, 1) := by decide +kernel
theorem dX12_read_180 : decode cX12_read 180 = .ok (.getfield 230, 3) := by decide +kernel
theorem dX12_read_183 : decode cX12_read 183 = .ok (.ifCond .le 8, 3) := by decide +kernel
theorem dX12_read_186 : decode cX12_read 186 = .ok (.aload_n 0, 1) := by decide +kernel
theorem dX12_read_187 : decode cX12_read 187 = .ok (.getfield 230, 3) := by decide +kernel
theorem dX12_read_190 : decode cX12_read 190 = .ok (.ireturn, 1) := by decide +kernel
theorem dX12_read_191 : decode cX12_read 191 = .ok (.aload_n 0, 1) := by decide +kernel
theorem dX12_read_192 : decode cX12_read 192 = .ok (.aload_n 0, 1) := by decide +kernel
theorem dX12_read_193 : decode cX12_read 193 = .ok (.getfield 254, 3) := by decide +kernel
theorem dX12_read_196 : decode cX12_read 196 = .ok (.putfield 251, 3) := by decide +kernel
theorem dX12_read_199 : decode cX12_read 199 = .ok (.aload_n 0, 1) := by decide +kernel
theorem dX12_read_200 : decode cX12_read 200 = .ok (.invokevirtual 178, 3) := by decide +kernel
theorem dX12_read_203 : decode cX12_read 203 = .ok (.aload_n 0, 1) := by decide +kernel
theorem dX12_read_204 : decode cX12_read 204 = .ok (.invokevirtual 181, 3) := by decide +kernel
theorem dX12_read_207 : decode cX12_read 207 = .ok (.aload_n 0, 1) := by decide +kernel
theorem dX12_read_208 : decode cX12_read 208 = .ok (.iconst 0, 1) := by decide +kernel
theorem dX12_read_209 : decode cX12_read 209 = .ok (.putfield 269, 3) := by decide +kernel
theorem dX12_read_212 : decode cX12_read 212 = .ok (.aload_n 0, 1) := by decide +kernel
theorem dX12_read_213 : decode cX12_read 213 = .ok (.iconst 0, 1) := by decide +kernel
theorem dX12_read_214 : decode cX12_read 214 = .ok (.putfield 272, 3) := by decide +kernel
theorem dX12_read_217 : decode cX12_read 217 = .ok (.iconst 0, 1) := by decide +kernel
theorem dX12_read_218 : decode cX12_read 218 = .ok (.istore_n 1, 1) := by decide +kernel
theorem dX12_read_219 : decode cX12_read 219 = .ok (.iload_n 1, 1) := by decide +kernel
theorem dX12_read_220 : decode cX12_read 220 = .ok (.iconst 3, 1) := by decide +kernel
theorem dX12_read_221 : decode cX12_read 221 = .ok (.if_icmp .ge 16, 3) := by decide +kernel
theorem dX12_read_224 : decode cX12_read 224 = .ok (.aload_n 0, 1) := by decide +kernel
theorem dX12_read_225 : decode cX12_read 225 = .ok (.getfield 164, 3) := by decide +kernel
theorem dX12_read_228 : decode cX12_read 228 = .ok (.iload_n 1, 1) := by decide +kernel
theorem dX12_read_229 : decode cX12_read 229 = .ok (.iconst 0, 1) := by decide +kernel
theorem dX12_read_230 : decode cX12_read 230 = .ok (.bastore, 1) := by decide +kernel
theorem dX12_read_231 : decode cX12_read 231 = .ok (.iinc 1 1, 3) := by decide +kernel
theorem dX12_read_234 : decode cX12_read 234 = .ok (.goto (-15), 3) := by decide +kernel
theorem dX12_read_237 : decode cX12_read 237 = .ok (.iconst 0, 1) := by decide +kernel
theorem dX12_read_238 : decode cX12_read 238 = .ok (.ireturn, 1) := by decide +kernel
theorem dX12_place_0 : decode cX12_place 0 = .ok (.aload_n 0, 1) := by decide +kernel
theorem dX12_place_1 : decode cX12_place 1 = .ok (.getfield 37, 3) := by decide +kernel
theorem dX12_place_4 : decode cX12_place 4 = .ok (.ireturn, 1) := by decide +kernel
theorem dX12_roomFor_0 : decode cX12_roomFor 0 = .ok (.iload_n 1, 1) := by decide +kernel
theorem dX12_roomFor_1 : decode cX12_roomFor 1 = .ok (.iload_n 2, 1) := by decide +kernel
theorem dX12_roomFor_2 : decode cX12_roomFor 2 = .ok (.if_icmp .ne 8, 3) := by decide +kernel
theorem dX12_roomFor_5 : decode cX12_roomFor 5 = .ok (.aload_n 0, 1) := by decide +kernel
theorem dX12_roomFor_6 : decode cX12_roomFor 6 = .ok (.iconst 2, 1) := by decide +kernel
theorem dX12_roomFor_7 : decode cX12_roomFor 7 = .ok (.invokevirtual 236, 3) := by decide +kernel
theorem dX12_roomFor_10 : decode cX12_roomFor 10 = .ok (.aload_n 0, 1) := by decide +kernel
theorem dX12_roomFor_11 : decode cX12_roomFor 11 = .ok (.getfield 221, 3) := by decide +kernel
theorem dX12_roomFor_14 : decode cX12_roomFor 14 = .ok (.ifCond .ne 7, 3) := by decide +kernel
theorem dX12_roomFor_17 : decode cX12_roomFor 17 = .ok (.aload_n 0, 1) := by decide +kernel
theorem dX12_roomFor_18 : decode cX12_roomFor 18 = .ok (.invokevirtual 242, 3) := by decide +kernel
theorem dX12_roomFor_21 : decode cX12_roomFor 21 = .ok (.return_, 1) := by decide +kernel
theorem dX12_toldInt_0 : decode cX12_toldInt 0 = .ok (.aload_n 0, 1) := by decide +kernel
theorem dX12_toldInt_1 : decode cX12_toldInt 1 = .ok (.invokevirtual 242, 3) := by decide +kernel
theorem dX12_toldInt_4 : decode cX12_toldInt 4 = .ok (.aload_n 0, 1) := by decide +kernel
theorem dX12_toldInt_5 : decode cX12_toldInt 5 = .ok (.iconst 0, 1) := by decide +kernel
theorem dX12_toldInt_6 : decode cX12_toldInt 6 = .ok (.iload_n 1, 1) := by decide +kernel
theorem dX12_toldInt_7 : decode cX12_toldInt 7 = .ok (.invokevirtual 275, 3) := by decide +kernel
theorem dX12_toldInt_10 : decode cX12_toldInt 10 = .ok (.istore_n 2, 1) := by decide +kernel
theorem dX12_toldInt_11 : decode cX12_toldInt 11 = .ok (.aload_n 0, 1) := by decide +kernel
theorem dX12_toldInt_12 : decode cX12_toldInt 12 = .ok (.iconst 4, 1) := by decide +kernel
theorem dX12_toldInt_13 : decode cX12_toldInt 13 = .ok (.invokevirtual 279, 3) := by decide +kernel
theorem dX12_toldInt_16 : decode cX12_toldInt 16 = .ok (.iload_n 2, 1) := by decide +kernel
theorem dX12_toldInt_17 : decode cX12_toldInt 17 = .ok (.ireturn, 1) := by decide +kernel
theorem dX12_tellOne_0 : decode cX12_tellOne 0 = .ok (.aload_n 0, 1) := by decide +kernel
theorem dX12_tellOne_1 : decode cX12_tellOne 1 = .ok (.getfield 20, 3) := by decide +kernel
theorem dX12_tellOne_4 : decode cX12_tellOne 4 = .ok (.aload_n 0, 1) := by decide +kernel
theorem dX12_tellOne_5 : decode cX12_tellOne 5 = .ok (.getfield 224, 3) := by decide +kernel
theorem dX12_tellOne_8 : decode cX12_tellOne 8 = .ok (.iaload, 1) := by decide +kernel
theorem dX12_tellOne_9 : decode cX12_tellOne 9 = .ok (.tableswitch 327 20 30 #[59, 122, 151, 180, 265, 327, 327, 327, 327, 290, 308], 59) := by decide +kernel
theorem dX12_tellOne_68 : decode cX12_tellOne 68 = .ok (.aload_n 0, 1) := by decide +kernel
theorem dX12_tellOne_69 : decode cX12_tellOne 69 = .ok (.aload_n 0, 1) := by decide +kernel
theorem dX12_tellOne_70 : decode cX12_tellOne 70 = .ok (.getfield 46, 3) := by decide +kernel
theorem dX12_tellOne_73 : decode cX12_tellOne 73 = .ok (.aload_n 0, 1) := by decide +kernel
theorem dX12_tellOne_74 : decode cX12_tellOne 74 = .ok (.getfield 254, 3) := by decide +kernel
theorem dX12_tellOne_77 : decode cX12_tellOne 77 = .ok (.iaload, 1) := by decide +kernel
theorem dX12_tellOne_78 : decode cX12_tellOne 78 = .ok (.bipush 7, 2) := by decide +kernel
theorem dX12_tellOne_80 : decode cX12_tellOne 80 = .ok (.invokevirtual 282, 3) := by decide +kernel
theorem dX12_tellOne_83 : decode cX12_tellOne 83 = .ok (.aload_n 0, 1) := by decide +kernel
theorem dX12_tellOne_84 : decode cX12_tellOne 84 = .ok (.getfield 221, 3) := by decide +kernel
theorem dX12_tellOne_87 : decode cX12_tellOne 87 = .ok (.ifCond .le 4, 3) := by decide +kernel
theorem dX12_tellOne_90 : decode cX12_tellOne 90 = .ok (.return_, 1) := by decide +kernel
theorem dX12_tellOne_91 : decode cX12_tellOne 91 = .ok (.aload_n 0, 1) := by decide +kernel
theorem dX12_tellOne_92 : decode cX12_tellOne 92 = .ok (.aload_n 0, 1) := by decide +kernel
theorem dX12_tellOne_93 : decode cX12_tellOne 93 = .ok (.invokevirtual 286, 3) := by decide +kernel
theorem dX12_tellOne_96 : decode cX12_tellOne 96 = .ok (.aload_n 0, 1) := by decide +kernel
theorem dX12_tellOne_97 : decode cX12_tellOne 97 = .ok (.getfield 46, 3) := by decide +kernel
theorem dX12_tellOne_100 : decode cX12_tellOne 100 = .ok (.aload_n 0, 1) := by decide +kernel
theorem dX12_tellOne_101 : decode cX12_tellOne 101 = .ok (.getfield 254, 3) := by decide +kernel
theorem dX12_tellOne_104 : decode cX12_tellOne 104 = .ok (.iaload, 1) := by decide +kernel
theorem dX12_tellOne_105 : decode cX12_tellOne 105 = .ok (.invokevirtual 290, 3) := by decide +kernel
theorem dX12_tellOne_108 : decode cX12_tellOne 108 = .ok (.aload_n 0, 1) := by decide +kernel
theorem dX12_tellOne_109 : decode cX12_tellOne 109 = .ok (.getfield 221, 3) := by decide +kernel
theorem dX12_tellOne_112 : decode cX12_tellOne 112 = .ok (.ifCond .ne 277, 3) := by decide +kernel
theorem dX12_tellOne_115 : decode cX12_tellOne 115 = .ok (.aload_n 0, 1) := by decide +kernel
theorem dX12_tellOne_116 : decode cX12_tellOne 116 = .ok (.getfield 46, 3) := by decide +kernel
theorem dX12_tellOne_119 : decode cX12_tellOne 119 = .ok (.aload_n 0, 1) := by decide +kernel
theorem dX12_tellOne_120 : decode cX12_tellOne 120 = .ok (.getfield 254, 3) := by decide +kernel
theorem dX12_tellOne_123 : decode cX12_tellOne 123 = .ok (.dup2, 1) := by decide +kernel
theorem dX12_tellOne_124 : decode cX12_tellOne 124 = .ok (.iaload, 1) := by decide +kernel
theorem dX12_tellOne_125 : decode cX12_tellOne 125 = .ok (.iconst 1, 1) := by decide +kernel
theorem dX12_tellOne_126 : decode cX12_tellOne 126 = .ok (.iadd, 1) := by decide +kernel
theorem dX12_tellOne_127 : decode cX12_tellOne 127 = .ok (.iastore, 1) := by decide +kernel
theorem dX12_tellOne_128 : decode cX12_tellOne 128 = .ok (.goto 261, 3) := by decide +kernel
theorem dX12_tellOne_131 : decode cX12_tellOne 131 = .ok (.aload_n 0, 1) := by decide +kernel
theorem dX12_tellOne_132 : decode cX12_tellOne 132 = .ok (.aload_n 0, 1) := by decide +kernel
theorem dX12_tellOne_133 : decode cX12_tellOne 133 = .ok (.getfield 49, 3) := by decide +kernel
theorem dX12_tellOne_136 : decode cX12_tellOne 136 = .ok (.aload_n 0, 1) := by decide +kernel
theorem dX12_tellOne_137 : decode cX12_tellOne 137 = .ok (.getfield 254, 3) := by decide +kernel
theorem dX12_tellOne_140 : decode cX12_tellOne 140 = .ok (.iaload, 1) := by decide +kernel
theorem dX12_tellOne_141 : decode cX12_tellOne 141 = .ok (.bipush 10, 2) := by decide +kernel
theorem dX12_tellOne_143 : decode cX12_tellOne 143 = .ok (.invokevirtual 282, 3) := by decide +kernel
theorem dX12_tellOne_146 : decode cX12_tellOne 146 = .ok (.aload_n 0, 1) := by decide +kernel
theorem dX12_tellOne_147 : decode cX12_tellOne 147 = .ok (.getfield 221, 3) := by decide +kernel
theorem dX12_tellOne_150 : decode cX12_tellOne 150 = .ok (.ifCond .ne 239, 3) := by decide +kernel
theorem dX12_tellOne_153 : decode cX12_tellOne 153 = .ok (.aload_n 0, 1) := by decide +kernel
theorem dX12_tellOne_154 : decode cX12_tellOne 154 = .ok (.invokevirtual 293, 3) := by decide +kernel
theorem dX12_tellOne_157 : decode cX12_tellOne 157 = .ok (.goto 232, 3) := by decide +kernel
theorem dX12_tellOne_160 : decode cX12_tellOne 160 = .ok (.aload_n 0, 1) := by decide +kernel
theorem dX12_tellOne_161 : decode cX12_tellOne 161 = .ok (.aload_n 0, 1) := by decide +kernel
theorem dX12_tellOne_162 : decode cX12_tellOne 162 = .ok (.getfield 61, 3) := by decide +kernel
theorem dX12_tellOne_165 : decode cX12_tellOne 165 = .ok (.aload_n 0, 1) := by decide +kernel
theorem dX12_tellOne_166 : decode cX12_tellOne 166 = .ok (.getfield 254, 3) := by decide +kernel
theorem dX12_tellOne_169 : decode cX12_tellOne 169 = .ok (.iaload, 1) := by decide +kernel
theorem dX12_tellOne_170 : decode cX12_tellOne 170 = .ok (.bipush 6, 2) := by decide +kernel
theorem dX12_tellOne_172 : decode cX12_tellOne 172 = .ok (.invokevirtual 282, 3) := by decide +kernel
theorem dX12_tellOne_175 : decode cX12_tellOne 175 = .ok (.aload_n 0, 1) := by decide +kernel
theorem dX12_tellOne_176 : decode cX12_tellOne 176 = .ok (.getfield 221, 3) := by decide +kernel
theorem dX12_tellOne_179 : decode cX12_tellOne 179 = .ok (.ifCond .ne 210, 3) := by decide +kernel
theorem dX12_tellOne_182 : decode cX12_tellOne 182 = .ok (.aload_n 0, 1) := by decide +kernel
theorem dX12_tellOne_183 : decode cX12_tellOne 183 = .ok (.invokevirtual 296, 3) := by decide +kernel
theorem dX12_tellOne_186 : decode cX12_tellOne 186 = .ok (.goto 203, 3) := by decide +kernel
theorem dX12_tellOne_189 : decode cX12_tellOne 189 = .ok (.aload_n 0, 1) := by decide +kernel
theorem dX12_tellOne_190 : decode cX12_tellOne 190 = .ok (.aload_n 0, 1) := by decide +kernel
theorem dX12_tellOne_191 : decode cX12_tellOne 191 = .ok (.getfield 73, 3) := by decide +kernel
theorem dX12_tellOne_194 : decode cX12_tellOne 194 = .ok (.aload_n 0, 1) := by decide +kernel
theorem dX12_tellOne_195 : decode cX12_tellOne 195 = .ok (.getfield 254, 3) := by decide +kernel
theorem dX12_tellOne_198 : decode cX12_tellOne 198 = .ok (.iaload, 1) := by decide +kernel
theorem dX12_tellOne_199 : decode cX12_tellOne 199 = .ok (.iconst 5, 1) := by decide +kernel
theorem dX12_tellOne_200 : decode cX12_tellOne 200 = .ok (.invokevirtual 282, 3) := by decide +kernel
theorem dX12_tellOne_203 : decode cX12_tellOne 203 = .ok (.aload_n 0, 1) := by decide +kernel
theorem dX12_tellOne_204 : decode cX12_tellOne 204 = .ok (.getfield 221, 3) := by decide +kernel
theorem dX12_tellOne_207 : decode cX12_tellOne 207 = .ok (.ifCond .le 4, 3) := by decide +kernel
theorem dX12_tellOne_210 : decode cX12_tellOne 210 = .ok (.return_, 1) := by decide +kernel
theorem dX12_tellOne_211 : decode cX12_tellOne 211 = .ok (.aload_n 0, 1) := by decide +kernel
theorem dX12_tellOne_212 : decode cX12_tellOne 212 = .ok (.invokevirtual 286, 3) := by decide +kernel
theorem dX12_tellOne_215 : decode cX12_tellOne 215 = .ok (.istore_n 1, 1) := by decide +kernel
theorem dX12_tellOne_216 : decode cX12_tellOne 216 = .ok (.aload_n 0, 1) := by decide +kernel
theorem dX12_tellOne_217 : decode cX12_tellOne 217 = .ok (.getfield 76, 3) := by decide +kernel
theorem dX12_tellOne_220 : decode cX12_tellOne 220 = .ok (.iconst 5, 1) := by decide +kernel
theorem dX12_tellOne_221 : decode cX12_tellOne 221 = .ok (.aload_n 0, 1) := by decide +kernel
theorem dX12_tellOne_222 : decode cX12_tellOne 222 = .ok (.getfield 254, 3) := by decide +kernel
theorem dX12_tellOne_225 : decode cX12_tellOne 225 = .ok (.imul, 1) := by decide +kernel
theorem dX12_tellOne_226 : decode cX12_tellOne 226 = .ok (.aload_n 0, 1) := by decide +kernel
theorem dX12_tellOne_227 : decode cX12_tellOne 227 = .ok (.getfield 73, 3) := by decide +kernel
theorem dX12_tellOne_230 : decode cX12_tellOne 230 = .ok (.aload_n 0, 1) := by decide +kernel
theorem dX12_tellOne_231 : decode cX12_tellOne 231 = .ok (.getfield 254, 3) := by decide +kernel
theorem dX12_tellOne_234 : decode cX12_tellOne 234 = .ok (.iaload, 1) := by decide +kernel
theorem dX12_tellOne_235 : decode cX12_tellOne 235 = .ok (.iadd, 1) := by decide +kernel
theorem dX12_tellOne_236 : decode cX12_tellOne 236 = .ok (.aload_n 0, 1) := by decide +kernel
theorem dX12_tellOne_237 : decode cX12_tellOne 237 = .ok (.iconst 0, 1) := by decide +kernel
theorem dX12_tellOne_238 : decode cX12_tellOne 238 = .ok (.bipush 99, 2) := by decide +kernel
theorem dX12_tellOne_240 : decode cX12_tellOne 240 = .ok (.invokevirtual 275, 3) := by decide +kernel
theorem dX12_tellOne_243 : decode cX12_tellOne 243 = .ok (.iastore, 1) := by decide +kernel
theorem dX12_tellOne_244 : decode cX12_tellOne 244 = .ok (.aload_n 0, 1) := by decide +kernel
theorem dX12_tellOne_245 : decode cX12_tellOne 245 = .ok (.iload_n 1, 1) := by decide +kernel
theorem dX12_tellOne_246 : decode cX12_tellOne 246 = .ok (.bipush 10, 2) := by decide +kernel
theorem dX12_tellOne_248 : decode cX12_tellOne 248 = .ok (.invokevirtual 290, 3) := by decide +kernel
theorem dX12_tellOne_251 : decode cX12_tellOne 251 = .ok (.aload_n 0, 1) := by decide +kernel
theorem dX12_tellOne_252 : decode cX12_tellOne 252 = .ok (.getfield 221, 3) := by decide +kernel
theorem dX12_tellOne_255 : decode cX12_tellOne 255 = .ok (.ifCond .ne 134, 3) := by decide +kernel
theorem dX12_tellOne_258 : decode cX12_tellOne 258 = .ok (.aload_n 0, 1) := by decide +kernel
theorem dX12_tellOne_259 : decode cX12_tellOne 259 = .ok (.getfield 73, 3) := by decide +kernel
theorem dX12_tellOne_262 : decode cX12_tellOne 262 = .ok (.aload_n 0, 1) := by decide +kernel
theorem dX12_tellOne_263 : decode cX12_tellOne 263 = .ok (.getfield 254, 3) := by decide +kernel
theorem dX12_tellOne_266 : decode cX12_tellOne 266 = .ok (.dup2, 1) := by decide +kernel
theorem dX12_tellOne_267 : decode cX12_tellOne 267 = .ok (.iaload, 1) := by decide +kernel
theorem dX12_tellOne_268 : decode cX12_tellOne 268 = .ok (.iconst 1, 1) := by decide +kernel
theorem dX12_tellOne_269 : decode cX12_tellOne 269 = .ok (.iadd, 1) := by decide +kernel
theorem dX12_tellOne_270 : decode cX12_tellOne 270 = .ok (.iastore, 1) := by decide +kernel
theorem dX12_tellOne_271 : decode cX12_tellOne 271 = .ok (.goto 118, 3) := by decide +kernel
theorem dX12_tellOne_274 : decode cX12_tellOne 274 = .ok (.aload_n 0, 1) := by decide +kernel
theorem dX12_tellOne_275 : decode cX12_tellOne 275 = .ok (.invokevirtual 242, 3) := by decide +kernel
theorem dX12_tellOne_278 : decode cX12_tellOne 278 = .ok (.aload_n 0, 1) := by decide +kernel
theorem dX12_tellOne_279 : decode cX12_tellOne 279 = .ok (.getfield 79, 3) := by decide +kernel
theorem dX12_tellOne_282 : decode cX12_tellOne 282 = .ok (.aload_n 0, 1) := by decide +kernel
theorem dX12_tellOne_283 : decode cX12_tellOne 283 = .ok (.getfield 254, 3) := by decide +kernel
theorem dX12_tellOne_286 : decode cX12_tellOne 286 = .ok (.aload_n 0, 1) := by decide +kernel
theorem dX12_tellOne_287 : decode cX12_tellOne 287 = .ok (.invokevirtual 299, 3) := by decide +kernel
theorem dX12_tellOne_290 : decode cX12_tellOne 290 = .ok (.iastore, 1) := by decide +kernel
theorem dX12_tellOne_291 : decode cX12_tellOne 291 = .ok (.aload_n 0, 1) := by decide +kernel
theorem dX12_tellOne_292 : decode cX12_tellOne 292 = .ok (.iconst 4, 1) := by decide +kernel
theorem dX12_tellOne_293 : decode cX12_tellOne 293 = .ok (.invokevirtual 279, 3) := by decide +kernel
theorem dX12_tellOne_296 : decode cX12_tellOne 296 = .ok (.goto 93, 3) := by decide +kernel
theorem dX12_tellOne_299 : decode cX12_tellOne 299 = .ok (.aload_n 0, 1) := by decide +kernel
theorem dX12_tellOne_300 : decode cX12_tellOne 300 = .ok (.getfield 82, 3) := by decide +kernel
theorem dX12_tellOne_303 : decode cX12_tellOne 303 = .ok (.aload_n 0, 1) := by decide +kernel
theorem dX12_tellOne_304 : decode cX12_tellOne 304 = .ok (.getfield 254, 3) := by decide +kernel
theorem dX12_tellOne_307 : decode cX12_tellOne 307 = .ok (.aload_n 0, 1) := by decide +kernel
theorem dX12_tellOne_308 : decode cX12_tellOne 308 = .ok (.bipush 100, 2) := by decide +kernel
theorem dX12_tellOne_310 : decode cX12_tellOne 310 = .ok (.invokevirtual 302, 3) := by decide +kernel
theorem dX12_tellOne_313 : decode cX12_tellOne 313 = .ok (.iastore, 1) := by decide +kernel
theorem dX12_tellOne_314 : decode cX12_tellOne 314 = .ok (.goto 75, 3) := by decide +kernel
theorem dX12_tellOne_317 : decode cX12_tellOne 317 = .ok (.aload_n 0, 1) := by decide +kernel
theorem dX12_tellOne_318 : decode cX12_tellOne 318 = .ok (.getfield 85, 3) := by decide +kernel
theorem dX12_tellOne_321 : decode cX12_tellOne 321 = .ok (.aload_n 0, 1) := by decide +kernel
theorem dX12_tellOne_322 : decode cX12_tellOne 322 = .ok (.getfield 254, 3) := by decide +kernel
theorem dX12_tellOne_325 : decode cX12_tellOne 325 = .ok (.aload_n 0, 1) := by decide +kernel
theorem dX12_tellOne_326 : decode cX12_tellOne 326 = .ok (.sipush 9999, 3) := by decide +kernel
theorem dX12_tellOne_329 : decode cX12_tellOne 329 = .ok (.invokevirtual 302, 3) := by decide +kernel
theorem dX12_tellOne_332 : decode cX12_tellOne 332 = .ok (.iastore, 1) := by decide +kernel
theorem dX12_tellOne_333 : decode cX12_tellOne 333 = .ok (.goto 56, 3) := by decide +kernel
theorem dX12_tellOne_336 : decode cX12_tellOne 336 = .ok (.aload_n 0, 1) := by decide +kernel
theorem dX12_tellOne_337 : decode cX12_tellOne 337 = .ok (.getfield 20, 3) := by decide +kernel
theorem dX12_tellOne_340 : decode cX12_tellOne 340 = .ok (.aload_n 0, 1) := by decide +kernel
theorem dX12_tellOne_341 : decode cX12_tellOne 341 = .ok (.getfield 224, 3) := by decide +kernel
theorem dX12_tellOne_344 : decode cX12_tellOne 344 = .ok (.iaload, 1) := by decide +kernel
theorem dX12_tellOne_345 : decode cX12_tellOne 345 = .ok (.bipush 25, 2) := by decide +kernel
theorem dX12_tellOne_347 : decode cX12_tellOne 347 = .ok (.isub, 1) := by decide +kernel
theorem dX12_tellOne_348 : decode cX12_tellOne 348 = .ok (.istore_n 1, 1) := by decide +kernel
theorem dX12_tellOne_349 : decode cX12_tellOne 349 = .ok (.iload_n 1, 1) := by decide +kernel
theorem dX12_tellOne_350 : decode cX12_tellOne 350 = .ok (.ifCond .lt 17, 3) := by decide +kernel
theorem dX12_tellOne_353 : decode cX12_tellOne 353 = .ok (.aload_n 0, 1) := by decide +kernel
theorem dX12_tellOne_354 : decode cX12_tellOne 354 = .ok (.getfield 20, 3) := by decide +kernel
theorem dX12_tellOne_357 : decode cX12_tellOne 357 = .ok (.aload_n 0, 1) := by decide +kernel
theorem dX12_tellOne_358 : decode cX12_tellOne 358 = .ok (.getfield 224, 3) := by decide +kernel
theorem dX12_tellOne_361 : decode cX12_tellOne 361 = .ok (.iaload, 1) := by decide +kernel
theorem dX12_tellOne_362 : decode cX12_tellOne 362 = .ok (.bipush 28, 2) := by decide +kernel
theorem dX12_tellOne_364 : decode cX12_tellOne 364 = .ok (.if_icmp .le 8, 3) := by decide +kernel
theorem dX12_tellOne_367 : decode cX12_tellOne 367 = .ok (.aload_n 0, 1) := by decide +kernel
theorem dX12_tellOne_368 : decode cX12_tellOne 368 = .ok (.iconst 1, 1) := by decide +kernel
theorem dX12_tellOne_369 : decode cX12_tellOne 369 = .ok (.invokevirtual 236, 3) := by decide +kernel
theorem dX12_tellOne_372 : decode cX12_tellOne 372 = .ok (.aload_n 0, 1) := by decide +kernel
theorem dX12_tellOne_373 : decode cX12_tellOne 373 = .ok (.getfield 221, 3) := by decide +kernel
theorem dX12_tellOne_376 : decode cX12_tellOne 376 = .ok (.ifCond .le 4, 3) := by decide +kernel
theorem dX12_tellOne_379 : decode cX12_tellOne 379 = .ok (.return_, 1) := by decide +kernel
theorem dX12_tellOne_380 : decode cX12_tellOne 380 = .ok (.aload_n 0, 1) := by decide +kernel
theorem dX12_tellOne_381 : decode cX12_tellOne 381 = .ok (.invokevirtual 242, 3) := by decide +kernel
theorem dX12_tellOne_384 : decode cX12_tellOne 384 = .ok (.aload_n 0, 1) := by decide +kernel
theorem dX12_tellOne_385 : decode cX12_tellOne 385 = .ok (.iload_n 1, 1) := by decide +kernel
theorem dX12_tellOne_386 : decode cX12_tellOne 386 = .ok (.invokevirtual 305, 3) := by decide +kernel
theorem dX12_tellOne_389 : decode cX12_tellOne 389 = .ok (.return_, 1) := by decide +kernel
theorem dX12_named_0 : decode cX12_named 0 = .ok (.aload_n 0, 1) := by decide +kernel
theorem dX12_named_1 : decode cX12_named 1 = .ok (.getfield 224, 3) := by decide +kernel
theorem dX12_named_4 : decode cX12_named 4 = .ok (.istore_n 1, 1) := by decide +kernel
theorem dX12_named_5 : decode cX12_named 5 = .ok (.aload_n 0, 1) := by decide +kernel
theorem dX12_named_6 : decode cX12_named 6 = .ok (.iconst 1, 1) := by decide +kernel
theorem dX12_named_7 : decode cX12_named 7 = .ok (.invokevirtual 279, 3) := by decide +kernel
theorem dX12_named_10 : decode cX12_named 10 = .ok (.iconst 0, 1) := by decide +kernel
theorem dX12_named_11 : decode cX12_named 11 = .ok (.istore_n 2, 1) := by decide +kernel
theorem dX12_named_12 : decode cX12_named 12 = .ok (.iload_n 2, 1) := by decide +kernel
theorem dX12_named_13 : decode cX12_named 13 = .ok (.aload_n 0, 1) := by decide +kernel
theorem dX12_named_14 : decode cX12_named 14 = .ok (.getfield 257, 3) := by decide +kernel
theorem dX12_named_17 : decode cX12_named 17 = .ok (.if_icmp .ge 38, 3) := by decide +kernel
theorem dX12_named_20 : decode cX12_named 20 = .ok (.aload_n 0, 1) := by decide +kernel
theorem dX12_named_21 : decode cX12_named 21 = .ok (.getfield 221, 3) := by decide +kernel
theorem dX12_named_24 : decode cX12_named 24 = .ok (.ifCond .ne 31, 3) := by decide +kernel
theorem dX12_named_27 : decode cX12_named 27 = .ok (.aload_n 0, 1) := by decide +kernel
theorem dX12_named_28 : decode cX12_named 28 = .ok (.getfield 40, 3) := by decide +kernel
theorem dX12_named_31 : decode cX12_named 31 = .ok (.iload_n 2, 1) := by decide +kernel
theorem dX12_named_32 : decode cX12_named 32 = .ok (.laload, 1) := by decide +kernel
theorem dX12_named_33 : decode cX12_named 33 = .ok (.aload_n 0, 1) := by decide +kernel
theorem dX12_named_34 : decode cX12_named 34 = .ok (.getfield 30, 3) := by decide +kernel
theorem dX12_named_37 : decode cX12_named 37 = .ok (.iload_n 1, 1) := by decide +kernel
theorem dX12_named_38 : decode cX12_named 38 = .ok (.laload, 1) := by decide +kernel
theorem dX12_named_39 : decode cX12_named 39 = .ok (.lcmp, 1) := by decide +kernel
theorem dX12_named_40 : decode cX12_named 40 = .ok (.ifCond .ne 9, 3) := by decide +kernel
theorem dX12_named_43 : decode cX12_named 43 = .ok (.aload_n 0, 1) := by decide +kernel
theorem dX12_named_44 : decode cX12_named 44 = .ok (.iconst 3, 1) := by decide +kernel
theorem dX12_named_45 : decode cX12_named 45 = .ok (.iload_n 1, 1) := by decide +kernel
theorem dX12_named_46 : decode cX12_named 46 = .ok (.invokevirtual 308, 3) := by decide +kernel
theorem dX12_named_49 : decode cX12_named 49 = .ok (.iinc 2 1, 3) := by decide +kernel
theorem dX12_named_52 : decode cX12_named 52 = .ok (.goto (-40), 3) := by decide +kernel
theorem dX12_named_55 : decode cX12_named 55 = .ok (.iload_n 1, 1) := by decide +kernel
theorem dX12_named_56 : decode cX12_named 56 = .ok (.ireturn, 1) := by decide +kernel
theorem dX12_endsName_0 : decode cX12_endsName 0 = .ok (.aload_n 0, 1) := by decide +kernel
theorem dX12_endsName_1 : decode cX12_endsName 1 = .ok (.iconst 4, 1) := by decide +kernel
theorem dX12_endsName_2 : decode cX12_endsName 2 = .ok (.invokevirtual 279, 3) := by decide +kernel
theorem dX12_endsName_5 : decode cX12_endsName 5 = .ok (.aload_n 0, 1) := by decide +kernel
theorem dX12_endsName_6 : decode cX12_endsName 6 = .ok (.getfield 221, 3) := by decide +kernel
theorem dX12_endsName_9 : decode cX12_endsName 9 = .ok (.ifCond .le 4, 3) := by decide +kernel
theorem dX12_endsName_12 : decode cX12_endsName 12 = .ok (.return_, 1) := by decide +kernel
theorem dX12_endsName_13 : decode cX12_endsName 13 = .ok (.aload_n 0, 1) := by decide +kernel
theorem dX12_endsName_14 : decode cX12_endsName 14 = .ok (.getfield 40, 3) := by decide +kernel
theorem dX12_endsName_17 : decode cX12_endsName 17 = .ok (.aload_n 0, 1) := by decide +kernel
theorem dX12_endsName_18 : decode cX12_endsName 18 = .ok (.getfield 257, 3) := by decide +kernel
theorem dX12_endsName_21 : decode cX12_endsName 21 = .ok (.aload_n 0, 1) := by decide +kernel
theorem dX12_endsName_22 : decode cX12_endsName 22 = .ok (.getfield 30, 3) := by decide +kernel
theorem dX12_endsName_25 : decode cX12_endsName 25 = .ok (.iload_n 1, 1) := by decide +kernel
theorem dX12_endsName_26 : decode cX12_endsName 26 = .ok (.laload, 1) := by decide +kernel
theorem dX12_endsName_27 : decode cX12_endsName 27 = .ok (.lastore, 1) := by decide +kernel
theorem dX12_endsName_28 : decode cX12_endsName 28 = .ok (.aload_n 0, 1) := by decide +kernel
theorem dX12_endsName_29 : decode cX12_endsName 29 = .ok (.getfield 43, 3) := by decide +kernel
theorem dX12_endsName_32 : decode cX12_endsName 32 = .ok (.aload_n 0, 1) := by decide +kernel
theorem dX12_endsName_33 : decode cX12_endsName 33 = .ok (.getfield 257, 3) := by decide +kernel
theorem dX12_endsName_36 : decode cX12_endsName 36 = .ok (.iload_n 2, 1) := by decide +kernel
theorem dX12_endsName_37 : decode cX12_endsName 37 = .ok (.iastore, 1) := by decide +kernel
theorem dX12_endsName_38 : decode cX12_endsName 38 = .ok (.aload_n 0, 1) := by decide +kernel
theorem dX12_endsName_39 : decode cX12_endsName 39 = .ok (.dup, 1) := by decide +kernel
theorem dX12_endsName_40 : decode cX12_endsName 40 = .ok (.getfield 257, 3) := by decide +kernel
theorem dX12_endsName_43 : decode cX12_endsName 43 = .ok (.iconst 1, 1) := by decide +kernel
theorem dX12_endsName_44 : decode cX12_endsName 44 = .ok (.iadd, 1) := by decide +kernel
theorem dX12_endsName_45 : decode cX12_endsName 45 = .ok (.putfield 257, 3) := by decide +kernel
theorem dX12_endsName_48 : decode cX12_endsName 48 = .ok (.return_, 1) := by decide +kernel
theorem dX12_known_0 : decode cX12_known 0 = .ok (.aload_n 0, 1) := by decide +kernel
theorem dX12_known_1 : decode cX12_known 1 = .ok (.getfield 224, 3) := by decide +kernel
theorem dX12_known_4 : decode cX12_known 4 = .ok (.istore_n 1, 1) := by decide +kernel
theorem dX12_known_5 : decode cX12_known 5 = .ok (.aload_n 0, 1) := by decide +kernel
theorem dX12_known_6 : decode cX12_known 6 = .ok (.iconst 1, 1) := by decide +kernel
theorem dX12_known_7 : decode cX12_known 7 = .ok (.invokevirtual 279, 3) := by decide +kernel
theorem dX12_known_10 : decode cX12_known 10 = .ok (.aload_n 0, 1) := by decide +kernel
theorem dX12_known_11 : decode cX12_known 11 = .ok (.getfield 221, 3) := by decide +kernel
theorem dX12_known_14 : decode cX12_known 14 = .ok (.ifCond .le 5, 3) := by decide +kernel
theorem dX12_known_17 : decode cX12_known 17 = .ok (.iconst (-1), 1) := by decide +kernel
theorem dX12_known_18 : decode cX12_known 18 = .ok (.ireturn, 1) := by decide +kernel
theorem dX12_known_19 : decode cX12_known 19 = .ok (.iconst 0, 1) := by decide +kernel
theorem dX12_known_20 : decode cX12_known 20 = .ok (.istore_n 2, 1) := by decide +kernel
theorem dX12_known_21 : decode cX12_known 21 = .ok (.iload_n 2, 1) := by decide +kernel
theorem dX12_known_22 : decode cX12_known 22 = .ok (.aload_n 0, 1) := by decide +kernel
theorem dX12_known_23 : decode cX12_known 23 = .ok (.getfield 257, 3) := by decide +kernel
theorem dX12_known_26 : decode cX12_known 26 = .ok (.if_icmp .ge 43, 3) := by decide +kernel
theorem dX12_known_29 : decode cX12_known 29 = .ok (.aload_n 0, 1) := by decide +kernel
theorem dX12_known_30 : decode cX12_known 30 = .ok (.getfield 40, 3) := by decide +kernel
theorem dX12_known_33 : decode cX12_known 33 = .ok (.iload_n 2, 1) := by decide +kernel
theorem dX12_known_34 : decode cX12_known 34 = .ok (.laload, 1) := by decide +kernel
theorem dX12_known_35 : decode cX12_known 35 = .ok (.aload_n 0, 1) := by decide +kernel
theorem dX12_known_36 : decode cX12_known 36 = .ok (.getfield 30, 3) := by decide +kernel
theorem dX12_known_39 : decode cX12_known 39 = .ok (.iload_n 1, 1) := by decide +kernel
theorem dX12_known_40 : decode cX12_known 40 = .ok (.laload, 1) := by decide +kernel
theorem dX12_known_41 : decode cX12_known 41 = .ok (.lcmp, 1) := by decide +kernel
theorem dX12_known_42 : decode cX12_known 42 = .ok (.ifCond .ne 21, 3) := by decide +kernel
theorem dX12_known_45 : decode cX12_known 45 = .ok (.aload_n 0, 1) := by decide +kernel
theorem dX12_known_46 : decode cX12_known 46 = .ok (.getfield 43, 3) := by decide +kernel
theorem dX12_known_49 : decode cX12_known 49 = .ok (.iload_n 2, 1) := by decide +kernel
theorem dX12_known_50 : decode cX12_known 50 = .ok (.iaload, 1) := by decide +kernel
theorem dX12_known_51 : decode cX12_known 51 = .ok (.bipush 10, 2) := by decide +kernel
theorem dX12_known_53 : decode cX12_known 53 = .ok (.if_icmp .ge 10, 3) := by decide +kernel
theorem dX12_known_56 : decode cX12_known 56 = .ok (.aload_n 0, 1) := by decide +kernel
theorem dX12_known_57 : decode cX12_known 57 = .ok (.getfield 43, 3) := by decide +kernel
theorem dX12_known_60 : decode cX12_known 60 = .ok (.iload_n 2, 1) := by decide +kernel
theorem dX12_known_61 : decode cX12_known 61 = .ok (.iaload, 1) := by decide +kernel
theorem dX12_known_62 : decode cX12_known 62 = .ok (.ireturn, 1) := by decide +kernel
theorem dX12_known_63 : decode cX12_known 63 = .ok (.iinc 2 1, 3) := by decide +kernel
theorem dX12_known_66 : decode cX12_known 66 = .ok (.goto (-45), 3) := by decide +kernel
theorem dX12_known_69 : decode cX12_known 69 = .ok (.aload_n 0, 1) := by decide +kernel
theorem dX12_known_70 : decode cX12_known 70 = .ok (.iconst 4, 1) := by decide +kernel
theorem dX12_known_71 : decode cX12_known 71 = .ok (.iload_n 1, 1) := by decide +kernel
theorem dX12_known_72 : decode cX12_known 72 = .ok (.invokevirtual 308, 3) := by decide +kernel
theorem dX12_known_75 : decode cX12_known 75 = .ok (.iconst (-1), 1) := by decide +kernel
theorem dX12_known_76 : decode cX12_known 76 = .ok (.ireturn, 1) := by decide +kernel
theorem dX12_bounded_0 : decode cX12_bounded 0 = .ok (.aload_n 0, 1) := by decide +kernel
theorem dX12_bounded_1 : decode cX12_bounded 1 = .ok (.getfield 221, 3) := by decide +kernel
theorem dX12_bounded_4 : decode cX12_bounded 4 = .ok (.ifCond .gt 11, 3) := by decide +kernel
theorem dX12_bounded_7 : decode cX12_bounded 7 = .ok (.aload_n 0, 1) := by decide +kernel
theorem dX12_bounded_8 : decode cX12_bounded 8 = .ok (.iconst 2, 1) := by decide +kernel
theorem dX12_bounded_9 : decode cX12_bounded 9 = .ok (.invokevirtual 239, 3) := by decide +kernel
theorem dX12_bounded_12 : decode cX12_bounded 12 = .ok (.ifCond .ne 10, 3) := by decide +kernel
theorem dX12_bounded_15 : decode cX12_bounded 15 = .ok (.aload_n 0, 1) := by decide +kernel
theorem dX12_bounded_16 : decode cX12_bounded 16 = .ok (.iconst 1, 1) := by decide +kernel
theorem dX12_bounded_17 : decode cX12_bounded 17 = .ok (.invokevirtual 236, 3) := by decide +kernel
theorem dX12_bounded_20 : decode cX12_bounded 20 = .ok (.iload_n 1, 1) := by decide +kernel
theorem dX12_bounded_21 : decode cX12_bounded 21 = .ok (.ireturn, 1) := by decide +kernel
theorem dX12_bounded_22 : decode cX12_bounded 22 = .ok (.aload_n 0, 1) := by decide +kernel
theorem dX12_bounded_23 : decode cX12_bounded 23 = .ok (.getfield 27, 3) := by decide +kernel
theorem dX12_bounded_26 : decode cX12_bounded 26 = .ok (.aload_n 0, 1) := by decide +kernel
theorem dX12_bounded_27 : decode cX12_bounded 27 = .ok (.getfield 224, 3) := by decide +kernel
theorem dX12_bounded_30 : decode cX12_bounded 30 = .ok (.iaload, 1) := by decide +kernel
theorem dX12_bounded_31 : decode cX12_bounded 31 = .ok (.istore_n 3, 1) := by decide +kernel
theorem dX12_bounded_32 : decode cX12_bounded 32 = .ok (.iload_n 3, 1) := by decide +kernel
theorem dX12_bounded_33 : decode cX12_bounded 33 = .ok (.iload_n 1, 1) := by decide +kernel
theorem dX12_bounded_34 : decode cX12_bounded 34 = .ok (.if_icmp .lt 8, 3) := by decide +kernel
theorem dX12_bounded_37 : decode cX12_bounded 37 = .ok (.iload_n 3, 1) := by decide +kernel
theorem dX12_bounded_38 : decode cX12_bounded 38 = .ok (.iload_n 2, 1) := by decide +kernel
theorem dX12_bounded_39 : decode cX12_bounded 39 = .ok (.if_icmp .le 12, 3) := by decide +kernel
theorem dX12_bounded_42 : decode cX12_bounded 42 = .ok (.aload_n 0, 1) := by decide +kernel
theorem dX12_bounded_43 : decode cX12_bounded 43 = .ok (.iconst 5, 1) := by decide +kernel
theorem dX12_bounded_44 : decode cX12_bounded 44 = .ok (.aload_n 0, 1) := by decide +kernel
theorem dX12_bounded_45 : decode cX12_bounded 45 = .ok (.getfield 224, 3) := by decide +kernel
theorem dX12_bounded_48 : decode cX12_bounded 48 = .ok (.invokevirtual 308, 3) := by decide +kernel
theorem dX12_bounded_51 : decode cX12_bounded 51 = .ok (.aload_n 0, 1) := by decide +kernel
theorem dX12_bounded_52 : decode cX12_bounded 52 = .ok (.invokevirtual 242, 3) := by decide +kernel
theorem dX12_bounded_55 : decode cX12_bounded 55 = .ok (.iload_n 3, 1) := by decide +kernel
theorem dX12_bounded_56 : decode cX12_bounded 56 = .ok (.ireturn, 1) := by decide +kernel
theorem dX12_tellStreet_0 : decode cX12_tellStreet 0 = .ok (.bipush 10, 2) := by decide +kernel
theorem dX12_tellStreet_2 : decode cX12_tellStreet 2 = .ok (.aload_n 0, 1) := by decide +kernel
theorem dX12_tellStreet_3 : decode cX12_tellStreet 3 = .ok (.getfield 254, 3) := by decide +kernel
theorem dX12_tellStreet_6 : decode cX12_tellStreet 6 = .ok (.imul, 1) := by decide +kernel
theorem dX12_tellStreet_7 : decode cX12_tellStreet 7 = .ok (.aload_n 0, 1) := by decide +kernel
theorem dX12_tellStreet_8 : decode cX12_tellStreet 8 = .ok (.getfield 49, 3) := by decide +kernel
theorem dX12_tellStreet_11 : decode cX12_tellStreet 11 = .ok (.aload_n 0, 1) := by decide +kernel
theorem dX12_tellStreet_12 : decode cX12_tellStreet 12 = .ok (.getfield 254, 3) := by decide +kernel
theorem dX12_tellStreet_15 : decode cX12_tellStreet 15 = .ok (.iaload, 1) := by decide +kernel
theorem dX12_tellStreet_16 : decode cX12_tellStreet 16 = .ok (.iadd, 1) := by decide +kernel
theorem dX12_tellStreet_17 : decode cX12_tellStreet 17 = .ok (.istore_n 1, 1) := by decide +kernel
theorem dX12_tellStreet_18 : decode cX12_tellStreet 18 = .ok (.aload_n 0, 1) := by decide +kernel
theorem dX12_tellStreet_19 : decode cX12_tellStreet 19 = .ok (.getfield 52, 3) := by decide +kernel
theorem dX12_tellStreet_22 : decode cX12_tellStreet 22 = .ok (.iload_n 1, 1) := by decide +kernel
theorem dX12_tellStreet_23 : decode cX12_tellStreet 23 = .ok (.aload_n 0, 1) := by decide +kernel
theorem dX12_tellStreet_24 : decode cX12_tellStreet 24 = .ok (.invokevirtual 299, 3) := by decide +kernel
theorem dX12_tellStreet_27 : decode cX12_tellStreet 27 = .ok (.iastore, 1) := by decide +kernel
theorem dX12_tellStreet_28 : decode cX12_tellStreet 28 = .ok (.aload_n 0, 1) := by decide +kernel
theorem dX12_tellStreet_29 : decode cX12_tellStreet 29 = .ok (.getfield 224, 3) := by decide +kernel
theorem dX12_tellStreet_32 : decode cX12_tellStreet 32 = .ok (.istore_n 2, 1) := by decide +kernel
theorem dX12_tellStreet_33 : decode cX12_tellStreet 33 = .ok (.aload_n 0, 1) := by decide +kernel
theorem dX12_tellStreet_34 : decode cX12_tellStreet 34 = .ok (.getfield 55, 3) := by decide +kernel
theorem dX12_tellStreet_37 : decode cX12_tellStreet 37 = .ok (.iload_n 1, 1) := by decide +kernel
theorem dX12_tellStreet_38 : decode cX12_tellStreet 38 = .ok (.aload_n 0, 1) := by decide +kernel
theorem dX12_tellStreet_39 : decode cX12_tellStreet 39 = .ok (.invokevirtual 299, 3) := by decide +kernel
theorem dX12_tellStreet_42 : decode cX12_tellStreet 42 = .ok (.iastore, 1) := by decide +kernel
theorem dX12_tellStreet_43 : decode cX12_tellStreet 43 = .ok (.aload_n 0, 1) := by decide +kernel
theorem dX12_tellStreet_44 : decode cX12_tellStreet 44 = .ok (.getfield 221, 3) := by decide +kernel
theorem dX12_tellStreet_47 : decode cX12_tellStreet 47 = .ok (.ifCond .ne 33, 3) := by decide +kernel
theorem dX12_tellStreet_50 : decode cX12_tellStreet 50 = .ok (.aload_n 0, 1) := by decide +kernel
theorem dX12_tellStreet_51 : decode cX12_tellStreet 51 = .ok (.getfield 52, 3) := by decide +kernel
theorem dX12_tellStreet_54 : decode cX12_tellStreet 54 = .ok (.iload_n 1, 1) := by decide +kernel
theorem dX12_tellStreet_55 : decode cX12_tellStreet 55 = .ok (.iaload, 1) := by decide +kernel
theorem dX12_tellStreet_56 : decode cX12_tellStreet 56 = .ok (.ifCond .lt 24, 3) := by decide +kernel
theorem dX12_tellStreet_59 : decode cX12_tellStreet 59 = .ok (.aload_n 0, 1) := by decide +kernel
theorem dX12_tellStreet_60 : decode cX12_tellStreet 60 = .ok (.getfield 52, 3) := by decide +kernel
theorem dX12_tellStreet_63 : decode cX12_tellStreet 63 = .ok (.iload_n 1, 1) := by decide +kernel
theorem dX12_tellStreet_64 : decode cX12_tellStreet 64 = .ok (.iaload, 1) := by decide +kernel
theorem dX12_tellStreet_65 : decode cX12_tellStreet 65 = .ok (.aload_n 0, 1) := by decide +kernel
theorem dX12_tellStreet_66 : decode cX12_tellStreet 66 = .ok (.getfield 55, 3) := by decide +kernel
theorem dX12_tellStreet_69 : decode cX12_tellStreet 69 = .ok (.iload_n 1, 1) := by decide +kernel
theorem dX12_tellStreet_70 : decode cX12_tellStreet 70 = .ok (.iaload, 1) := by decide +kernel
theorem dX12_tellStreet_71 : decode cX12_tellStreet 71 = .ok (.if_icmp .ne 9, 3) := by decide +kernel
theorem dX12_tellStreet_74 : decode cX12_tellStreet 74 = .ok (.aload_n 0, 1) := by decide +kernel
theorem dX12_tellStreet_75 : decode cX12_tellStreet 75 = .ok (.iconst 3, 1) := by decide +kernel
theorem dX12_tellStreet_76 : decode cX12_tellStreet 76 = .ok (.iload_n 2, 1) := by decide +kernel
theorem dX12_tellStreet_77 : decode cX12_tellStreet 77 = .ok (.invokevirtual 308, 3) := by decide +kernel
theorem dX12_tellStreet_80 : decode cX12_tellStreet 80 = .ok (.aload_n 0, 1) := by decide +kernel
theorem dX12_tellStreet_81 : decode cX12_tellStreet 81 = .ok (.getfield 58, 3) := by decide +kernel
theorem dX12_tellStreet_84 : decode cX12_tellStreet 84 = .ok (.iload_n 1, 1) := by decide +kernel
theorem dX12_tellStreet_85 : decode cX12_tellStreet 85 = .ok (.aload_n 0, 1) := by decide +kernel
theorem dX12_tellStreet_86 : decode cX12_tellStreet 86 = .ok (.iconst 1, 1) := by decide +kernel
theorem dX12_tellStreet_87 : decode cX12_tellStreet 87 = .ok (.bipush 99, 2) := by decide +kernel
theorem dX12_tellStreet_89 : decode cX12_tellStreet 89 = .ok (.invokevirtual 275, 3) := by decide +kernel
theorem dX12_tellStreet_92 : decode cX12_tellStreet 92 = .ok (.iastore, 1) := by decide +kernel
theorem dX12_tellStreet_93 : decode cX12_tellStreet 93 = .ok (.aload_n 0, 1) := by decide +kernel
theorem dX12_tellStreet_94 : decode cX12_tellStreet 94 = .ok (.iconst 4, 1) := by decide +kernel
theorem dX12_tellStreet_95 : decode cX12_tellStreet 95 = .ok (.invokevirtual 279, 3) := by decide +kernel
theorem dX12_tellStreet_98 : decode cX12_tellStreet 98 = .ok (.aload_n 0, 1) := by decide +kernel
theorem dX12_tellStreet_99 : decode cX12_tellStreet 99 = .ok (.getfield 221, 3) := by decide +kernel
theorem dX12_tellStreet_102 : decode cX12_tellStreet 102 = .ok (.ifCond .ne 16, 3) := by decide +kernel
theorem dX12_tellStreet_105 : decode cX12_tellStreet 105 = .ok (.aload_n 0, 1) := by decide +kernel
theorem dX12_tellStreet_106 : decode cX12_tellStreet 106 = .ok (.getfield 49, 3) := by decide +kernel
theorem dX12_tellStreet_109 : decode cX12_tellStreet 109 = .ok (.aload_n 0, 1) := by decide +kernel
theorem dX12_tellStreet_110 : decode cX12_tellStreet 110 = .ok (.getfield 254, 3) := by decide +kernel
theorem dX12_tellStreet_113 : decode cX12_tellStreet 113 = .ok (.dup2, 1) := by decide +kernel
theorem dX12_tellStreet_114 : decode cX12_tellStreet 114 = .ok (.iaload, 1) := by decide +kernel
theorem dX12_tellStreet_115 : decode cX12_tellStreet 115 = .ok (.iconst 1, 1) := by decide +kernel
theorem dX12_tellStreet_116 : decode cX12_tellStreet 116 = .ok (.iadd, 1) := by decide +kernel
theorem dX12_tellStreet_117 : decode cX12_tellStreet 117 = .ok (.iastore, 1) := by decide +kernel
theorem dX12_tellStreet_118 : decode cX12_tellStreet 118 = .ok (.return_, 1) := by decide +kernel
theorem dX12_tellYoung_0 : decode cX12_tellYoung 0 = .ok (.bipush 6, 2) := by decide +kernel
theorem dX12_tellYoung_2 : decode cX12_tellYoung 2 = .ok (.aload_n 0, 1) := by decide +kernel
theorem dX12_tellYoung_3 : decode cX12_tellYoung 3 = .ok (.getfield 254, 3) := by decide +kernel
theorem dX12_tellYoung_6 : decode cX12_tellYoung 6 = .ok (.imul, 1) := by decide +kernel
theorem dX12_tellYoung_7 : decode cX12_tellYoung 7 = .ok (.aload_n 0, 1) := by decide +kernel
theorem dX12_tellYoung_8 : decode cX12_tellYoung 8 = .ok (.getfield 61, 3) := by decide +kernel
theorem dX12_tellYoung_11 : decode cX12_tellYoung 11 = .ok (.aload_n 0, 1) := by decide +kernel
theorem dX12_tellYoung_12 : decode cX12_tellYoung 12 = .ok (.getfield 254, 3) := by decide +kernel
theorem dX12_tellYoung_15 : decode cX12_tellYoung 15 = .ok (.iaload, 1) := by decide +kernel
theorem dX12_tellYoung_16 : decode cX12_tellYoung 16 = .ok (.iadd, 1) := by decide +kernel
theorem dX12_tellYoung_17 : decode cX12_tellYoung 17 = .ok (.istore_n 1, 1) := by decide +kernel
theorem dX12_tellYoung_18 : decode cX12_tellYoung 18 = .ok (.aload_n 0, 1) := by decide +kernel
theorem dX12_tellYoung_19 : decode cX12_tellYoung 19 = .ok (.invokevirtual 286, 3) := by decide +kernel
theorem dX12_tellYoung_22 : decode cX12_tellYoung 22 = .ok (.istore_n 2, 1) := by decide +kernel
theorem dX12_tellYoung_23 : decode cX12_tellYoung 23 = .ok (.aload_n 0, 1) := by decide +kernel
theorem dX12_tellYoung_24 : decode cX12_tellYoung 24 = .ok (.getfield 64, 3) := by decide +kernel
theorem dX12_tellYoung_27 : decode cX12_tellYoung 27 = .ok (.iload_n 1, 1) := by decide +kernel
theorem dX12_tellYoung_28 : decode cX12_tellYoung 28 = .ok (.aload_n 0, 1) := by decide +kernel
theorem dX12_tellYoung_29 : decode cX12_tellYoung 29 = .ok (.bipush 10, 2) := by decide +kernel
theorem dX12_tellYoung_31 : decode cX12_tellYoung 31 = .ok (.bipush 40, 2) := by decide +kernel
theorem dX12_tellYoung_33 : decode cX12_tellYoung 33 = .ok (.invokevirtual 275, 3) := by decide +kernel
theorem dX12_tellYoung_36 : decode cX12_tellYoung 36 = .ok (.iastore, 1) := by decide +kernel
theorem dX12_tellYoung_37 : decode cX12_tellYoung 37 = .ok (.aload_n 0, 1) := by decide +kernel
theorem dX12_tellYoung_38 : decode cX12_tellYoung 38 = .ok (.getfield 67, 3) := by decide +kernel
theorem dX12_tellYoung_41 : decode cX12_tellYoung 41 = .ok (.iload_n 1, 1) := by decide +kernel
theorem dX12_tellYoung_42 : decode cX12_tellYoung 42 = .ok (.aload_n 0, 1) := by decide +kernel
theorem dX12_tellYoung_43 : decode cX12_tellYoung 43 = .ok (.iconst 0, 1) := by decide +kernel
theorem dX12_tellYoung_44 : decode cX12_tellYoung 44 = .ok (.bipush 9, 2) := by decide +kernel
theorem dX12_tellYoung_46 : decode cX12_tellYoung 46 = .ok (.invokevirtual 275, 3) := by decide +kernel
theorem dX12_tellYoung_49 : decode cX12_tellYoung 49 = .ok (.iastore, 1) := by decide +kernel
theorem dX12_tellYoung_50 : decode cX12_tellYoung 50 = .ok (.aload_n 0, 1) := by decide +kernel
theorem dX12_tellYoung_51 : decode cX12_tellYoung 51 = .ok (.getfield 70, 3) := by decide +kernel
theorem dX12_tellYoung_54 : decode cX12_tellYoung 54 = .ok (.iload_n 1, 1) := by decide +kernel
theorem dX12_tellYoung_55 : decode cX12_tellYoung 55 = .ok (.aload_n 0, 1) := by decide +kernel
theorem dX12_tellYoung_56 : decode cX12_tellYoung 56 = .ok (.invokevirtual 299, 3) := by decide +kernel
theorem dX12_tellYoung_59 : decode cX12_tellYoung 59 = .ok (.iastore, 1) := by decide +kernel
theorem dX12_tellYoung_60 : decode cX12_tellYoung 60 = .ok (.aload_n 0, 1) := by decide +kernel
theorem dX12_tellYoung_61 : decode cX12_tellYoung 61 = .ok (.iload_n 2, 1) := by decide +kernel
theorem dX12_tellYoung_62 : decode cX12_tellYoung 62 = .ok (.bipush 10, 2) := by decide +kernel
theorem dX12_tellYoung_64 : decode cX12_tellYoung 64 = .ok (.invokevirtual 290, 3) := by decide +kernel
theorem dX12_tellYoung_67 : decode cX12_tellYoung 67 = .ok (.aload_n 0, 1) := by decide +kernel
theorem dX12_tellYoung_68 : decode cX12_tellYoung 68 = .ok (.getfield 221, 3) := by decide +kernel
theorem dX12_tellYoung_71 : decode cX12_tellYoung 71 = .ok (.ifCond .ne 16, 3) := by decide +kernel
theorem dX12_tellYoung_74 : decode cX12_tellYoung 74 = .ok (.aload_n 0, 1) := by decide +kernel
theorem dX12_tellYoung_75 : decode cX12_tellYoung 75 = .ok (.getfield 61, 3) := by decide +kernel
theorem dX12_tellYoung_78 : decode cX12_tellYoung 78 = .ok (.aload_n 0, 1) := by decide +kernel
theorem dX12_tellYoung_79 : decode cX12_tellYoung 79 = .ok (.getfield 254, 3) := by decide +kernel
theorem dX12_tellYoung_82 : decode cX12_tellYoung 82 = .ok (.dup2, 1) := by decide +kernel
theorem dX12_tellYoung_83 : decode cX12_tellYoung 83 = .ok (.iaload, 1) := by decide +kernel
theorem dX12_tellYoung_84 : decode cX12_tellYoung 84 = .ok (.iconst 1, 1) := by decide +kernel
theorem dX12_tellYoung_85 : decode cX12_tellYoung 85 = .ok (.iadd, 1) := by decide +kernel
theorem dX12_tellYoung_86 : decode cX12_tellYoung 86 = .ok (.iastore, 1) := by decide +kernel
theorem dX12_tellYoung_87 : decode cX12_tellYoung 87 = .ok (.return_, 1) := by decide +kernel
theorem dX12_tellLaw_0 : decode cX12_tellLaw 0 = .ok (.aload_n 0, 1) := by decide +kernel
theorem dX12_tellLaw_1 : decode cX12_tellLaw 1 = .ok (.iconst 5, 1) := by decide +kernel
theorem dX12_tellLaw_2 : decode cX12_tellLaw 2 = .ok (.invokevirtual 279, 3) := by decide +kernel
theorem dX12_tellLaw_5 : decode cX12_tellLaw 5 = .ok (.aload_n 0, 1) := by decide +kernel
theorem dX12_tellLaw_6 : decode cX12_tellLaw 6 = .ok (.getfield 260, 3) := by decide +kernel
theorem dX12_tellLaw_9 : decode cX12_tellLaw 9 = .ok (.istore_n 2, 1) := by decide +kernel
theorem dX12_tellLaw_10 : decode cX12_tellLaw 10 = .ok (.iconst 0, 1) := by decide +kernel
theorem dX12_tellLaw_11 : decode cX12_tellLaw 11 = .ok (.istore_n 3, 1) := by decide +kernel
theorem dX12_tellLaw_12 : decode cX12_tellLaw 12 = .ok (.aload_n 0, 1) := by decide +kernel
theorem dX12_tellLaw_13 : decode cX12_tellLaw 13 = .ok (.getfield 221, 3) := by decide +kernel
theorem dX12_tellLaw_16 : decode cX12_tellLaw 16 = .ok (.ifCond .ne 113, 3) := by decide +kernel
theorem dX12_tellLaw_19 : decode cX12_tellLaw 19 = .ok (.aload_n 0, 1) := by decide +kernel
theorem dX12_tellLaw_20 : decode cX12_tellLaw 20 = .ok (.bipush 31, 2) := by decide +kernel
theorem dX12_tellLaw_22 : decode cX12_tellLaw 22 = .ok (.invokevirtual 239, 3) := by decide +kernel
theorem dX12_tellLaw_25 : decode cX12_tellLaw 25 = .ok (.ifCond .eq 104, 3) := by decide +kernel
theorem dX12_tellLaw_28 : decode cX12_tellLaw 28 = .ok (.iload_n 3, 1) := by decide +kernel
theorem dX12_tellLaw_29 : decode cX12_tellLaw 29 = .ok (.iconst 4, 1) := by decide +kernel
theorem dX12_tellLaw_30 : decode cX12_tellLaw 30 = .ok (.if_icmp .ne 8, 3) := by decide +kernel
theorem dX12_tellLaw_33 : decode cX12_tellLaw 33 = .ok (.aload_n 0, 1) := by decide +kernel
theorem dX12_tellLaw_34 : decode cX12_tellLaw 34 = .ok (.iconst 2, 1) := by decide +kernel
theorem dX12_tellLaw_35 : decode cX12_tellLaw 35 = .ok (.invokevirtual 236, 3) := by decide +kernel
theorem dX12_tellLaw_38 : decode cX12_tellLaw 38 = .ok (.aload_n 0, 1) := by decide +kernel
theorem dX12_tellLaw_39 : decode cX12_tellLaw 39 = .ok (.getfield 221, 3) := by decide +kernel
theorem dX12_tellLaw_42 : decode cX12_tellLaw 42 = .ok (.ifCond .le 4, 3) := by decide +kernel
theorem dX12_tellLaw_45 : decode cX12_tellLaw 45 = .ok (.return_, 1) := by decide +kernel
theorem dX12_tellLaw_46 : decode cX12_tellLaw 46 = .ok (.iinc 3 1, 3) := by decide +kernel
theorem dX12_tellLaw_49 : decode cX12_tellLaw 49 = .ok (.aload_n 0, 1) := by decide +kernel
theorem dX12_tellLaw_50 : decode cX12_tellLaw 50 = .ok (.invokevirtual 242, 3) := by decide +kernel
theorem dX12_tellLaw_53 : decode cX12_tellLaw 53 = .ok (.aload_n 0, 1) := by decide +kernel
theorem dX12_tellLaw_54 : decode cX12_tellLaw 54 = .ok (.getfield 94, 3) := by decide +kernel
theorem dX12_tellLaw_57 : decode cX12_tellLaw 57 = .ok (.aload_n 0, 1) := by decide +kernel
theorem dX12_tellLaw_58 : decode cX12_tellLaw 58 = .ok (.getfield 260, 3) := by decide +kernel
theorem dX12_tellLaw_61 : decode cX12_tellLaw 61 = .ok (.iconst 1, 1) := by decide +kernel
theorem dX12_tellLaw_62 : decode cX12_tellLaw 62 = .ok (.bastore, 1) := by decide +kernel
theorem dX12_tellLaw_63 : decode cX12_tellLaw 63 = .ok (.aload_n 0, 1) := by decide +kernel
theorem dX12_tellLaw_64 : decode cX12_tellLaw 64 = .ok (.getfield 98, 3) := by decide +kernel
theorem dX12_tellLaw_67 : decode cX12_tellLaw 67 = .ok (.aload_n 0, 1) := by decide +kernel
theorem dX12_tellLaw_68 : decode cX12_tellLaw 68 = .ok (.getfield 260, 3) := by decide +kernel
theorem dX12_tellLaw_71 : decode cX12_tellLaw 71 = .ok (.aload_n 0, 1) := by decide +kernel
theorem dX12_tellLaw_72 : decode cX12_tellLaw 72 = .ok (.getfield 263, 3) := by decide +kernel
theorem dX12_tellLaw_75 : decode cX12_tellLaw 75 = .ok (.iastore, 1) := by decide +kernel
theorem dX12_tellLaw_76 : decode cX12_tellLaw 76 = .ok (.aload_n 0, 1) := by decide +kernel
theorem dX12_tellLaw_77 : decode cX12_tellLaw 77 = .ok (.invokevirtual 311, 3) := by decide +kernel
theorem dX12_tellLaw_80 : decode cX12_tellLaw 80 = .ok (.aload_n 0, 1) := by decide +kernel
theorem dX12_tellLaw_81 : decode cX12_tellLaw 81 = .ok (.bipush 13, 2) := by decide +kernel
theorem dX12_tellLaw_83 : decode cX12_tellLaw 83 = .ok (.invokevirtual 279, 3) := by decide +kernel
theorem dX12_tellLaw_86 : decode cX12_tellLaw 86 = .ok (.aload_n 0, 1) := by decide +kernel
theorem dX12_tellLaw_87 : decode cX12_tellLaw 87 = .ok (.getfield 101, 3) := by decide +kernel
theorem dX12_tellLaw_90 : decode cX12_tellLaw 90 = .ok (.aload_n 0, 1) := by decide +kernel
theorem dX12_tellLaw_91 : decode cX12_tellLaw 91 = .ok (.getfield 260, 3) := by decide +kernel
theorem dX12_tellLaw_94 : decode cX12_tellLaw 94 = .ok (.aload_n 0, 1) := by decide +kernel
theorem dX12_tellLaw_95 : decode cX12_tellLaw 95 = .ok (.getfield 263, 3) := by decide +kernel
theorem dX12_tellLaw_98 : decode cX12_tellLaw 98 = .ok (.iastore, 1) := by decide +kernel
theorem dX12_tellLaw_99 : decode cX12_tellLaw 99 = .ok (.aload_n 0, 1) := by decide +kernel
theorem dX12_tellLaw_100 : decode cX12_tellLaw 100 = .ok (.getfield 221, 3) := by decide +kernel
theorem dX12_tellLaw_103 : decode cX12_tellLaw 103 = .ok (.ifCond .ne 7, 3) := by decide +kernel
theorem dX12_tellLaw_106 : decode cX12_tellLaw 106 = .ok (.aload_n 0, 1) := by decide +kernel
theorem dX12_tellLaw_107 : decode cX12_tellLaw 107 = .ok (.invokevirtual 311, 3) := by decide +kernel
theorem dX12_tellLaw_110 : decode cX12_tellLaw 110 = .ok (.aload_n 0, 1) := by decide +kernel
theorem dX12_tellLaw_111 : decode cX12_tellLaw 111 = .ok (.bipush 32, 2) := by decide +kernel
theorem dX12_tellLaw_113 : decode cX12_tellLaw 113 = .ok (.invokevirtual 279, 3) := by decide +kernel
theorem dX12_tellLaw_116 : decode cX12_tellLaw 116 = .ok (.aload_n 0, 1) := by decide +kernel
theorem dX12_tellLaw_117 : decode cX12_tellLaw 117 = .ok (.invokevirtual 314, 3) := by decide +kernel
theorem dX12_tellLaw_120 : decode cX12_tellLaw 120 = .ok (.aload_n 0, 1) := by decide +kernel
theorem dX12_tellLaw_121 : decode cX12_tellLaw 121 = .ok (.bipush 33, 2) := by decide +kernel
theorem dX12_tellLaw_123 : decode cX12_tellLaw 123 = .ok (.invokevirtual 279, 3) := by decide +kernel
theorem dX12_tellLaw_126 : decode cX12_tellLaw 126 = .ok (.goto (-114), 3) := by decide +kernel
theorem dX12_tellLaw_129 : decode cX12_tellLaw 129 = .ok (.aload_n 0, 1) := by decide +kernel
theorem dX12_tellLaw_130 : decode cX12_tellLaw 130 = .ok (.getfield 94, 3) := by decide +kernel
theorem dX12_tellLaw_133 : decode cX12_tellLaw 133 = .ok (.aload_n 0, 1) := by decide +kernel
theorem dX12_tellLaw_134 : decode cX12_tellLaw 134 = .ok (.getfield 260, 3) := by decide +kernel
theorem dX12_tellLaw_137 : decode cX12_tellLaw 137 = .ok (.iconst 0, 1) := by decide +kernel
theorem dX12_tellLaw_138 : decode cX12_tellLaw 138 = .ok (.bastore, 1) := by decide +kernel
theorem dX12_tellLaw_139 : decode cX12_tellLaw 139 = .ok (.aload_n 0, 1) := by decide +kernel
theorem dX12_tellLaw_140 : decode cX12_tellLaw 140 = .ok (.invokevirtual 314, 3) := by decide +kernel
theorem dX12_tellLaw_143 : decode cX12_tellLaw 143 = .ok (.aload_n 0, 1) := by decide +kernel
theorem dX12_tellLaw_144 : decode cX12_tellLaw 144 = .ok (.iconst 4, 1) := by decide +kernel
theorem dX12_tellLaw_145 : decode cX12_tellLaw 145 = .ok (.invokevirtual 279, 3) := by decide +kernel
theorem dX12_tellLaw_148 : decode cX12_tellLaw 148 = .ok (.aload_n 0, 1) := by decide +kernel
theorem dX12_tellLaw_149 : decode cX12_tellLaw 149 = .ok (.getfield 221, 3) := by decide +kernel
theorem dX12_tellLaw_152 : decode cX12_tellLaw 152 = .ok (.ifCond .le 4, 3) := by decide +kernel
theorem dX12_tellLaw_155 : decode cX12_tellLaw 155 = .ok (.return_, 1) := by decide +kernel
theorem dX12_tellLaw_156 : decode cX12_tellLaw 156 = .ok (.aload_n 0, 1) := by decide +kernel
theorem dX12_tellLaw_157 : decode cX12_tellLaw 157 = .ok (.getfield 88, 3) := by decide +kernel
theorem dX12_tellLaw_160 : decode cX12_tellLaw 160 = .ok (.iconst 4, 1) := by decide +kernel
theorem dX12_tellLaw_161 : decode cX12_tellLaw 161 = .ok (.aload_n 0, 1) := by decide +kernel
theorem dX12_tellLaw_162 : decode cX12_tellLaw 162 = .ok (.getfield 254, 3) := by decide +kernel
theorem dX12_tellLaw_165 : decode cX12_tellLaw 165 = .ok (.imul, 1) := by decide +kernel
theorem dX12_tellLaw_166 : decode cX12_tellLaw 166 = .ok (.iload_n 1, 1) := by decide +kernel
theorem dX12_tellLaw_167 : decode cX12_tellLaw 167 = .ok (.iadd, 1) := by decide +kernel
theorem dX12_tellLaw_168 : decode cX12_tellLaw 168 = .ok (.iload_n 2, 1) := by decide +kernel
theorem dX12_tellLaw_169 : decode cX12_tellLaw 169 = .ok (.iastore, 1) := by decide +kernel
theorem dX12_tellLaw_170 : decode cX12_tellLaw 170 = .ok (.aload_n 0, 1) := by decide +kernel
theorem dX12_tellLaw_171 : decode cX12_tellLaw 171 = .ok (.getfield 91, 3) := by decide +kernel
theorem dX12_tellLaw_174 : decode cX12_tellLaw 174 = .ok (.iconst 4, 1) := by decide +kernel
theorem dX12_tellLaw_175 : decode cX12_tellLaw 175 = .ok (.aload_n 0, 1) := by decide +kernel
theorem dX12_tellLaw_176 : decode cX12_tellLaw 176 = .ok (.getfield 254, 3) := by decide +kernel
theorem dX12_tellLaw_179 : decode cX12_tellLaw 179 = .ok (.imul, 1) := by decide +kernel
theorem dX12_tellLaw_180 : decode cX12_tellLaw 180 = .ok (.iload_n 1, 1) := by decide +kernel
theorem dX12_tellLaw_181 : decode cX12_tellLaw 181 = .ok (.iadd, 1) := by decide +kernel
theorem dX12_tellLaw_182 : decode cX12_tellLaw 182 = .ok (.aload_n 0, 1) := by decide +kernel
theorem dX12_tellLaw_183 : decode cX12_tellLaw 183 = .ok (.getfield 260, 3) := by decide +kernel
theorem dX12_tellLaw_186 : decode cX12_tellLaw 186 = .ok (.iastore, 1) := by decide +kernel
theorem dX12_tellLaw_187 : decode cX12_tellLaw 187 = .ok (.return_, 1) := by decide +kernel
theorem dX12_term_0 : decode cX12_term 0 = .ok (.aload_n 0, 1) := by decide +kernel
theorem dX12_term_1 : decode cX12_term 1 = .ok (.getfield 104, 3) := by decide +kernel
theorem dX12_term_4 : decode cX12_term 4 = .ok (.aload_n 0, 1) := by decide +kernel
theorem dX12_term_5 : decode cX12_term 5 = .ok (.getfield 260, 3) := by decide +kernel
theorem dX12_term_8 : decode cX12_term 8 = .ok (.aload_n 0, 1) := by decide +kernel
theorem dX12_term_9 : decode cX12_term 9 = .ok (.getfield 263, 3) := by decide +kernel
theorem dX12_term_12 : decode cX12_term 12 = .ok (.iastore, 1) := by decide +kernel
theorem dX12_term_13 : decode cX12_term 13 = .ok (.aload_n 0, 1) := by decide +kernel
theorem dX12_term_14 : decode cX12_term 14 = .ok (.getfield 221, 3) := by decide +kernel
theorem dX12_term_17 : decode cX12_term 17 = .ok (.ifCond .ne 7, 3) := by decide +kernel
theorem dX12_term_20 : decode cX12_term 20 = .ok (.aload_n 0, 1) := by decide +kernel
theorem dX12_term_21 : decode cX12_term 21 = .ok (.invokevirtual 311, 3) := by decide +kernel
theorem dX12_term_24 : decode cX12_term 24 = .ok (.aload_n 0, 1) := by decide +kernel
theorem dX12_term_25 : decode cX12_term 25 = .ok (.getfield 107, 3) := by decide +kernel
theorem dX12_term_28 : decode cX12_term 28 = .ok (.aload_n 0, 1) := by decide +kernel
theorem dX12_term_29 : decode cX12_term 29 = .ok (.getfield 260, 3) := by decide +kernel
theorem dX12_term_32 : decode cX12_term 32 = .ok (.aload_n 0, 1) := by decide +kernel
theorem dX12_term_33 : decode cX12_term 33 = .ok (.getfield 263, 3) := by decide +kernel
theorem dX12_term_36 : decode cX12_term 36 = .ok (.iastore, 1) := by decide +kernel
theorem dX12_term_37 : decode cX12_term 37 = .ok (.aload_n 0, 1) := by decide +kernel
theorem dX12_term_38 : decode cX12_term 38 = .ok (.dup, 1) := by decide +kernel
theorem dX12_term_39 : decode cX12_term 39 = .ok (.getfield 260, 3) := by decide +kernel
theorem dX12_term_42 : decode cX12_term 42 = .ok (.iconst 1, 1) := by decide +kernel
theorem dX12_term_43 : decode cX12_term 43 = .ok (.iadd, 1) := by decide +kernel
theorem dX12_term_44 : decode cX12_term 44 = .ok (.putfield 260, 3) := by decide +kernel
theorem dX12_term_47 : decode cX12_term 47 = .ok (.return_, 1) := by decide +kernel
theorem dX12_emit_0 : decode cX12_emit 0 = .ok (.aload_n 0, 1) := by decide +kernel
theorem dX12_emit_1 : decode cX12_emit 1 = .ok (.getfield 110, 3) := by decide +kernel
theorem dX12_emit_4 : decode cX12_emit 4 = .ok (.aload_n 0, 1) := by decide +kernel
theorem dX12_emit_5 : decode cX12_emit 5 = .ok (.getfield 263, 3) := by decide +kernel
theorem dX12_emit_8 : decode cX12_emit 8 = .ok (.iload_n 1, 1) := by decide +kernel
theorem dX12_emit_9 : decode cX12_emit 9 = .ok (.iastore, 1) := by decide +kernel
theorem dX12_emit_10 : decode cX12_emit 10 = .ok (.aload_n 0, 1) := by decide +kernel
theorem dX12_emit_11 : decode cX12_emit 11 = .ok (.getfield 113, 3) := by decide +kernel
theorem dX12_emit_14 : decode cX12_emit 14 = .ok (.aload_n 0, 1) := by decide +kernel
theorem dX12_emit_15 : decode cX12_emit 15 = .ok (.getfield 263, 3) := by decide +kernel
theorem dX12_emit_18 : decode cX12_emit 18 = .ok (.iload_n 2, 1) := by decide +kernel
theorem dX12_emit_19 : decode cX12_emit 19 = .ok (.iastore, 1) := by decide +kernel
theorem dX12_emit_20 : decode cX12_emit 20 = .ok (.aload_n 0, 1) := by decide +kernel
theorem dX12_emit_21 : decode cX12_emit 21 = .ok (.dup, 1) := by decide +kernel
theorem dX12_emit_22 : decode cX12_emit 22 = .ok (.getfield 263, 3) := by decide +kernel
theorem dX12_emit_25 : decode cX12_emit 25 = .ok (.iconst 1, 1) := by decide +kernel
theorem dX12_emit_26 : decode cX12_emit 26 = .ok (.iadd, 1) := by decide +kernel
theorem dX12_emit_27 : decode cX12_emit 27 = .ok (.putfield 263, 3) := by decide +kernel
theorem dX12_emit_30 : decode cX12_emit 30 = .ok (.return_, 1) := by decide +kernel
theorem dX12_comesOut_0 : decode cX12_comesOut 0 = .ok (.aload_n 0, 1) := by decide +kernel
theorem dX12_comesOut_1 : decode cX12_comesOut 1 = .ok (.getfield 317, 3) := by decide +kernel
theorem dX12_comesOut_4 : decode cX12_comesOut 4 = .ok (.ifCond .le 87, 3) := by decide +kernel
theorem dX12_comesOut_7 : decode cX12_comesOut 7 = .ok (.aload_n 0, 1) := by decide +kernel
theorem dX12_comesOut_8 : decode cX12_comesOut 8 = .ok (.getfield 116, 3) := by decide +kernel
theorem dX12_comesOut_11 : decode cX12_comesOut 11 = .ok (.aload_n 0, 1) := by decide +kernel
theorem dX12_comesOut_12 : decode cX12_comesOut 12 = .ok (.getfield 317, 3) := by decide +kernel
theorem dX12_comesOut_15 : decode cX12_comesOut 15 = .ok (.iconst 1, 1) := by decide +kernel
theorem dX12_comesOut_16 : decode cX12_comesOut 16 = .ok (.isub, 1) := by decide +kernel
theorem dX12_comesOut_17 : decode cX12_comesOut 17 = .ok (.iaload, 1) := by decide +kernel
theorem dX12_comesOut_18 : decode cX12_comesOut 18 = .ok (.istore_n 2, 1) := by decide +kernel
theorem dX12_comesOut_19 : decode cX12_comesOut 19 = .ok (.iload_n 2, 1) := by decide +kernel
theorem dX12_comesOut_20 : decode cX12_comesOut 20 = .ok (.bipush 6, 2) := by decide +kernel
theorem dX12_comesOut_22 : decode cX12_comesOut 22 = .ok (.if_icmp .eq 19, 3) := by decide +kernel
theorem dX12_comesOut_25 : decode cX12_comesOut 25 = .ok (.iload_n 1, 1) := by decide +kernel
theorem dX12_comesOut_26 : decode cX12_comesOut 26 = .ok (.ifCond .eq 16, 3) := by decide +kernel
theorem dX12_comesOut_29 : decode cX12_comesOut 29 = .ok (.iload_n 2, 1) := by decide +kernel
theorem dX12_comesOut_30 : decode cX12_comesOut 30 = .ok (.bipush 8, 2) := by decide +kernel
theorem dX12_comesOut_32 : decode cX12_comesOut 32 = .ok (.if_icmp .eq 9, 3) := by decide +kernel
theorem dX12_comesOut_35 : decode cX12_comesOut 35 = .ok (.iload_n 2, 1) := by decide +kernel
theorem dX12_comesOut_36 : decode cX12_comesOut 36 = .ok (.bipush 9, 2) := by decide +kernel
theorem dX12_comesOut_38 : decode cX12_comesOut 38 = .ok (.if_icmp .ne 4, 3) := by decide +kernel
theorem dX12_comesOut_41 : decode cX12_comesOut 41 = .ok (.return_, 1) := by decide +kernel
theorem dX12_comesOut_42 : decode cX12_comesOut 42 = .ok (.aload_n 0, 1) := by decide +kernel
theorem dX12_comesOut_43 : decode cX12_comesOut 43 = .ok (.dup, 1) := by decide +kernel
theorem dX12_comesOut_44 : decode cX12_comesOut 44 = .ok (.getfield 317, 3) := by decide +kernel
theorem dX12_comesOut_47 : decode cX12_comesOut 47 = .ok (.iconst 1, 1) := by decide +kernel
theorem dX12_comesOut_48 : decode cX12_comesOut 48 = .ok (.isub, 1) := by decide +kernel
theorem dX12_comesOut_49 : decode cX12_comesOut 49 = .ok (.putfield 317, 3) := by decide +kernel
theorem dX12_comesOut_52 : decode cX12_comesOut 52 = .ok (.aload_n 0, 1) := by decide +kernel
theorem dX12_comesOut_53 : decode cX12_comesOut 53 = .ok (.iload_n 2, 1) := by decide +kernel
theorem dX12_comesOut_54 : decode cX12_comesOut 54 = .ok (.bipush 8, 2) := by decide +kernel
theorem dX12_comesOut_56 : decode cX12_comesOut 56 = .ok (.if_icmp .ne 7, 3) := by decide +kernel
theorem dX12_comesOut_59 : decode cX12_comesOut 59 = .ok (.iconst 2, 1) := by decide +kernel
theorem dX12_comesOut_60 : decode cX12_comesOut 60 = .ok (.goto 24, 3) := by decide +kernel
theorem dX12_comesOut_63 : decode cX12_comesOut 63 = .ok (.iload_n 2, 1) := by decide +kernel
theorem dX12_comesOut_64 : decode cX12_comesOut 64 = .ok (.bipush 9, 2) := by decide +kernel
theorem dX12_comesOut_66 : decode cX12_comesOut 66 = .ok (.if_icmp .ne 7, 3) := by decide +kernel
theorem dX12_comesOut_69 : decode cX12_comesOut 69 = .ok (.iconst 3, 1) := by decide +kernel
theorem dX12_comesOut_70 : decode cX12_comesOut 70 = .ok (.goto 14, 3) := by decide +kernel
theorem dX12_comesOut_73 : decode cX12_comesOut 73 = .ok (.iload_n 2, 1) := by decide +kernel
theorem dX12_comesOut_74 : decode cX12_comesOut 74 = .ok (.bipush 10, 2) := by decide +kernel
theorem dX12_comesOut_76 : decode cX12_comesOut 76 = .ok (.if_icmp .ne 7, 3) := by decide +kernel
theorem dX12_comesOut_79 : decode cX12_comesOut 79 = .ok (.iconst 4, 1) := by decide +kernel
theorem dX12_comesOut_80 : decode cX12_comesOut 80 = .ok (.goto 4, 3) := by decide +kernel
theorem dX12_comesOut_83 : decode cX12_comesOut 83 = .ok (.iconst 5, 1) := by decide +kernel
theorem dX12_comesOut_84 : decode cX12_comesOut 84 = .ok (.iconst 0, 1) := by decide +kernel
theorem dX12_comesOut_85 : decode cX12_comesOut 85 = .ok (.invokevirtual 320, 3) := by decide +kernel
theorem dX12_comesOut_88 : decode cX12_comesOut 88 = .ok (.goto (-88), 3) := by decide +kernel
theorem dX12_comesOut_91 : decode cX12_comesOut 91 = .ok (.return_, 1) := by decide +kernel
theorem dX12_expression_0 : decode cX12_expression 0 = .ok (.aload_n 0, 1) := by decide +kernel
theorem dX12_expression_1 : decode cX12_expression 1 = .ok (.iconst 0, 1) := by decide +kernel
theorem dX12_expression_2 : decode cX12_expression 2 = .ok (.putfield 317, 3) := by decide +kernel
theorem dX12_expression_5 : decode cX12_expression 5 = .ok (.aload_n 0, 1) := by decide +kernel
theorem dX12_expression_6 : decode cX12_expression 6 = .ok (.getfield 248, 3) := by decide +kernel
theorem dX12_expression_9 : decode cX12_expression 9 = .ok (.istore_n 1, 1) := by decide +kernel
theorem dX12_expression_10 : decode cX12_expression 10 = .ok (.iconst 1, 1) := by decide +kernel
theorem dX12_expression_11 : decode cX12_expression 11 = .ok (.istore_n 2, 1) := by decide +kernel
theorem dX12_expression_12 : decode cX12_expression 12 = .ok (.iload_n 2, 1) := by decide +kernel
theorem dX12_expression_13 : decode cX12_expression 13 = .ok (.ifCond .eq 259, 3) := by decide +kernel
theorem dX12_expression_16 : decode cX12_expression 16 = .ok (.aload_n 0, 1) := by decide +kernel
theorem dX12_expression_17 : decode cX12_expression 17 = .ok (.getfield 221, 3) := by decide +kernel
theorem dX12_expression_20 : decode cX12_expression 20 = .ok (.ifCond .ne 252, 3) := by decide +kernel
theorem dX12_expression_23 : decode cX12_expression 23 = .ok (.aload_n 0, 1) := by decide +kernel
theorem dX12_expression_24 : decode cX12_expression 24 = .ok (.bipush 6, 2) := by decide +kernel
theorem dX12_expression_26 : decode cX12_expression 26 = .ok (.invokevirtual 239, 3) := by decide +kernel
theorem dX12_expression_29 : decode cX12_expression 29 = .ok (.ifCond .eq 55, 3) := by decide +kernel
theorem dX12_expression_32 : decode cX12_expression 32 = .ok (.aload_n 0, 1) := by decide +kernel
theorem dX12_expression_33 : decode cX12_expression 33 = .ok (.getfield 248, 3) := by decide +kernel
theorem dX12_expression_36 : decode cX12_expression 36 = .ok (.bipush 6, 2) := by decide +kernel
theorem dX12_expression_38 : decode cX12_expression 38 = .ok (.if_icmp .ne 8, 3) := by decide +kernel
theorem dX12_expression_41 : decode cX12_expression 41 = .ok (.aload_n 0, 1) := by decide +kernel
theorem dX12_expression_42 : decode cX12_expression 42 = .ok (.iconst 2, 1) := by decide +kernel
theorem dX12_expression_43 : decode cX12_expression 43 = .ok (.invokevirtual 236, 3) := by decide +kernel
theorem dX12_expression_46 : decode cX12_expression 46 = .ok (.aload_n 0, 1) := by decide +kernel
theorem dX12_expression_47 : decode cX12_expression 47 = .ok (.dup, 1) := by decide +kernel
theorem dX12_expression_48 : decode cX12_expression 48 = .ok (.getfield 248, 3) := by decide +kernel
theorem dX12_expression_51 : decode cX12_expression 51 = .ok (.iconst 1, 1) := by decide +kernel
theorem dX12_expression_52 : decode cX12_expression 52 = .ok (.iadd, 1) := by decide +kernel
theorem dX12_expression_53 : decode cX12_expression 53 = .ok (.putfield 248, 3) := by decide +kernel
theorem dX12_expression_56 : decode cX12_expression 56 = .ok (.aload_n 0, 1) := by decide +kernel
theorem dX12_expression_57 : decode cX12_expression 57 = .ok (.invokevirtual 242, 3) := by decide +kernel
theorem dX12_expression_60 : decode cX12_expression 60 = .ok (.aload_n 0, 1) := by decide +kernel
theorem dX12_expression_61 : decode cX12_expression 61 = .ok (.getfield 116, 3) := by decide +kernel
theorem dX12_expression_64 : decode cX12_expression 64 = .ok (.aload_n 0, 1) := by decide +kernel
theorem dX12_expression_65 : decode cX12_expression 65 = .ok (.getfield 317, 3) := by decide +kernel
theorem dX12_expression_68 : decode cX12_expression 68 = .ok (.bipush 6, 2) := by decide +kernel
theorem dX12_expression_70 : decode cX12_expression 70 = .ok (.iastore, 1) := by decide +kernel
theorem dX12_expression_71 : decode cX12_expression 71 = .ok (.aload_n 0, 1) := by decide +kernel
theorem dX12_expression_72 : decode cX12_expression 72 = .ok (.dup, 1) := by decide +kernel
theorem dX12_expression_73 : decode cX12_expression 73 = .ok (.getfield 317, 3) := by decide +kernel
theorem dX12_expression_76 : decode cX12_expression 76 = .ok (.iconst 1, 1) := by decide +kernel
theorem dX12_expression_77 : decode cX12_expression 77 = .ok (.iadd, 1) := by decide +kernel
theorem dX12_expression_78 : decode cX12_expression 78 = .ok (.putfield 317, 3) := by decide +kernel
theorem dX12_expression_81 : decode cX12_expression 81 = .ok (.goto (-58), 3) := by decide +kernel
theorem dX12_expression_84 : decode cX12_expression 84 = .ok (.aload_n 0, 1) := by decide +kernel
theorem dX12_expression_85 : decode cX12_expression 85 = .ok (.invokevirtual 323, 3) := by decide +kernel
theorem dX12_expression_88 : decode cX12_expression 88 = .ok (.aload_n 0, 1) := by decide +kernel
theorem dX12_expression_89 : decode cX12_expression 89 = .ok (.getfield 221, 3) := by decide +kernel
theorem dX12_expression_92 : decode cX12_expression 92 = .ok (.ifCond .le 4, 3) := by decide +kernel
theorem dX12_expression_95 : decode cX12_expression 95 = .ok (.return_, 1) := by decide +kernel
theorem dX12_expression_96 : decode cX12_expression 96 = .ok (.aload_n 0, 1) := by decide +kernel
theorem dX12_expression_97 : decode cX12_expression 97 = .ok (.bipush 7, 2) := by decide +kernel
theorem dX12_expression_99 : decode cX12_expression 99 = .ok (.invokevirtual 239, 3) := by decide +kernel
theorem dX12_expression_102 : decode cX12_expression 102 = .ok (.ifCond .eq 43, 3) := by decide +kernel
theorem dX12_expression_105 : decode cX12_expression 105 = .ok (.aload_n 0, 1) := by decide +kernel
theorem dX12_expression_106 : decode cX12_expression 106 = .ok (.getfield 248, 3) := by decide +kernel
theorem dX12_expression_109 : decode cX12_expression 109 = .ok (.iload_n 1, 1) := by decide +kernel
theorem dX12_expression_110 : decode cX12_expression 110 = .ok (.if_icmp .le 35, 3) := by decide +kernel
theorem dX12_expression_113 : decode cX12_expression 113 = .ok (.aload_n 0, 1) := by decide +kernel
theorem dX12_expression_114 : decode cX12_expression 114 = .ok (.iconst 0, 1) := by decide +kernel
theorem dX12_expression_115 : decode cX12_expression 115 = .ok (.invokevirtual 326, 3) := by decide +kernel
theorem dX12_expression_118 : decode cX12_expression 118 = .ok (.aload_n 0, 1) := by decide +kernel
theorem dX12_expression_119 : decode cX12_expression 119 = .ok (.dup, 1) := by decide +kernel
theorem dX12_expression_120 : decode cX12_expression 120 = .ok (.getfield 317, 3) := by decide +kernel
theorem dX12_expression_123 : decode cX12_expression 123 = .ok (.iconst 1, 1) := by decide +kernel
theorem dX12_expression_124 : decode cX12_expression 124 = .ok (.isub, 1) := by decide +kernel
theorem dX12_expression_125 : decode cX12_expression 125 = .ok (.putfield 317, 3) := by decide +kernel
theorem dX12_expression_128 : decode cX12_expression 128 = .ok (.aload_n 0, 1) := by decide +kernel
theorem dX12_expression_129 : decode cX12_expression 129 = .ok (.dup, 1) := by decide +kernel
theorem dX12_expression_130 : decode cX12_expression 130 = .ok (.getfield 248, 3) := by decide +kernel
theorem dX12_expression_133 : decode cX12_expression 133 = .ok (.iconst 1, 1) := by decide +kernel
theorem dX12_expression_134 : decode cX12_expression 134 = .ok (.isub, 1) := by decide +kernel
theorem dX12_expression_135 : decode cX12_expression 135 = .ok (.putfield 248, 3) := by decide +kernel
theorem dX12_expression_138 : decode cX12_expression 138 = .ok (.aload_n 0, 1) := by decide +kernel
theorem dX12_expression_139 : decode cX12_expression 139 = .ok (.invokevirtual 242, 3) := by decide +kernel
theorem dX12_expression_142 : decode cX12_expression 142 = .ok (.goto (-46), 3) := by decide +kernel
theorem dX12_expression_145 : decode cX12_expression 145 = .ok (.aload_n 0, 1) := by decide +kernel
theorem dX12_expression_146 : decode cX12_expression 146 = .ok (.bipush 8, 2) := by decide +kernel
theorem dX12_expression_148 : decode cX12_expression 148 = .ok (.invokevirtual 239, 3) := by decide +kernel
theorem dX12_expression_151 : decode cX12_expression 151 = .ok (.ifCond .ne 30, 3) := by decide +kernel
theorem dX12_expression_154 : decode cX12_expression 154 = .ok (.aload_n 0, 1) := by decide +kernel
theorem dX12_expression_155 : decode cX12_expression 155 = .ok (.bipush 9, 2) := by decide +kernel
theorem dX12_expression_157 : decode cX12_expression 157 = .ok (.invokevirtual 239, 3) := by decide +kernel
theorem dX12_expression_160 : decode cX12_expression 160 = .ok (.ifCond .ne 21, 3) := by decide +kernel
theorem dX12_expression_163 : decode cX12_expression 163 = .ok (.aload_n 0, 1) := by decide +kernel
theorem dX12_expression_164 : decode cX12_expression 164 = .ok (.bipush 10, 2) := by decide +kernel
theorem dX12_expression_166 : decode cX12_expression 166 = .ok (.invokevirtual 239, 3) := by decide +kernel
theorem dX12_expression_169 : decode cX12_expression 169 = .ok (.ifCond .ne 12, 3) := by decide +kernel
theorem dX12_expression_172 : decode cX12_expression 172 = .ok (.aload_n 0, 1) := by decide +kernel
theorem dX12_expression_173 : decode cX12_expression 173 = .ok (.bipush 15, 2) := by decide +kernel
theorem dX12_expression_175 : decode cX12_expression 175 = .ok (.invokevirtual 239, 3) := by decide +kernel
theorem dX12_expression_178 : decode cX12_expression 178 = .ok (.ifCond .eq 7, 3) := by decide +kernel
theorem dX12_expression_181 : decode cX12_expression 181 = .ok (.iconst 1, 1) := by decide +kernel
theorem dX12_expression_182 : decode cX12_expression 182 = .ok (.goto 4, 3) := by decide +kernel
theorem dX12_expression_185 : decode cX12_expression 185 = .ok (.iconst 0, 1) := by decide +kernel
theorem dX12_expression_186 : decode cX12_expression 186 = .ok (.istore_n 2, 1) := by decide +kernel
theorem dX12_expression_187 : decode cX12_expression 187 = .ok (.iload_n 2, 1) := by decide +kernel
theorem dX12_expression_188 : decode cX12_expression 188 = .ok (.ifCond .ne 22, 3) := by decide +kernel
theorem dX12_expression_191 : decode cX12_expression 191 = .ok (.aload_n 0, 1) := by decide +kernel
theorem dX12_expression_192 : decode cX12_expression 192 = .ok (.getfield 248, 3) := by decide +kernel
theorem dX12_expression_195 : decode cX12_expression 195 = .ok (.iload_n 1, 1) := by decide +kernel
theorem dX12_expression_196 : decode cX12_expression 196 = .ok (.if_icmp .le 8, 3) := by decide +kernel
theorem dX12_expression_199 : decode cX12_expression 199 = .ok (.aload_n 0, 1) := by decide +kernel
theorem dX12_expression_200 : decode cX12_expression 200 = .ok (.iconst 1, 1) := by decide +kernel
theorem dX12_expression_201 : decode cX12_expression 201 = .ok (.invokevirtual 236, 3) := by decide +kernel
theorem dX12_expression_204 : decode cX12_expression 204 = .ok (.aload_n 0, 1) := by decide +kernel
theorem dX12_expression_205 : decode cX12_expression 205 = .ok (.iconst 0, 1) := by decide +kernel
theorem dX12_expression_206 : decode cX12_expression 206 = .ok (.invokevirtual 326, 3) := by decide +kernel
theorem dX12_expression_209 : decode cX12_expression 209 = .ok (.return_, 1) := by decide +kernel
theorem dX12_expression_210 : decode cX12_expression 210 = .ok (.aload_n 0, 1) := by decide +kernel
theorem dX12_expression_211 : decode cX12_expression 211 = .ok (.aload_n 0, 1) := by decide +kernel
theorem dX12_expression_212 : decode cX12_expression 212 = .ok (.bipush 10, 2) := by decide +kernel
theorem dX12_expression_214 : decode cX12_expression 214 = .ok (.invokevirtual 239, 3) := by decide +kernel
theorem dX12_expression_217 : decode cX12_expression 217 = .ok (.ifCond .ne 12, 3) := by decide +kernel
theorem dX12_expression_220 : decode cX12_expression 220 = .ok (.aload_n 0, 1) := by decide +kernel
theorem dX12_expression_221 : decode cX12_expression 221 = .ok (.bipush 15, 2) := by decide +kernel
theorem dX12_expression_223 : decode cX12_expression 223 = .ok (.invokevirtual 239, 3) := by decide +kernel
theorem dX12_expression_226 : decode cX12_expression 226 = .ok (.ifCond .eq 7, 3) := by decide +kernel
theorem dX12_expression_229 : decode cX12_expression 229 = .ok (.iconst 1, 1) := by decide +kernel
theorem dX12_expression_230 : decode cX12_expression 230 = .ok (.goto 4, 3) := by decide +kernel
theorem dX12_expression_233 : decode cX12_expression 233 = .ok (.iconst 0, 1) := by decide +kernel
theorem dX12_expression_234 : decode cX12_expression 234 = .ok (.invokevirtual 326, 3) := by decide +kernel
theorem dX12_expression_237 : decode cX12_expression 237 = .ok (.aload_n 0, 1) := by decide +kernel
theorem dX12_expression_238 : decode cX12_expression 238 = .ok (.getfield 116, 3) := by decide +kernel
theorem dX12_expression_241 : decode cX12_expression 241 = .ok (.aload_n 0, 1) := by decide +kernel
theorem dX12_expression_242 : decode cX12_expression 242 = .ok (.getfield 317, 3) := by decide +kernel
theorem dX12_expression_245 : decode cX12_expression 245 = .ok (.aload_n 0, 1) := by decide +kernel
theorem dX12_expression_246 : decode cX12_expression 246 = .ok (.getfield 20, 3) := by decide +kernel
theorem dX12_expression_249 : decode cX12_expression 249 = .ok (.aload_n 0, 1) := by decide +kernel
theorem dX12_expression_250 : decode cX12_expression 250 = .ok (.getfield 224, 3) := by decide +kernel
theorem dX12_expression_253 : decode cX12_expression 253 = .ok (.iaload, 1) := by decide +kernel
theorem dX12_expression_254 : decode cX12_expression 254 = .ok (.iastore, 1) := by decide +kernel
theorem dX12_expression_255 : decode cX12_expression 255 = .ok (.aload_n 0, 1) := by decide +kernel
theorem dX12_expression_256 : decode cX12_expression 256 = .ok (.dup, 1) := by decide +kernel
theorem dX12_expression_257 : decode cX12_expression 257 = .ok (.getfield 317, 3) := by decide +kernel
theorem dX12_expression_260 : decode cX12_expression 260 = .ok (.iconst 1, 1) := by decide +kernel
theorem dX12_expression_261 : decode cX12_expression 261 = .ok (.iadd, 1) := by decide +kernel
theorem dX12_expression_262 : decode cX12_expression 262 = .ok (.putfield 317, 3) := by decide +kernel
theorem dX12_expression_265 : decode cX12_expression 265 = .ok (.aload_n 0, 1) := by decide +kernel
theorem dX12_expression_266 : decode cX12_expression 266 = .ok (.invokevirtual 242, 3) := by decide +kernel
theorem dX12_expression_269 : decode cX12_expression 269 = .ok (.goto (-257), 3) := by decide +kernel
theorem dX12_expression_272 : decode cX12_expression 272 = .ok (.return_, 1) := by decide +kernel
theorem dX12_unit_0 : decode cX12_unit 0 = .ok (.aload_n 0, 1) := by decide +kernel
theorem dX12_unit_1 : decode cX12_unit 1 = .ok (.iconst 2, 1) := by decide +kernel
theorem dX12_unit_2 : decode cX12_unit 2 = .ok (.invokevirtual 239, 3) := by decide +kernel
theorem dX12_unit_5 : decode cX12_unit 5 = .ok (.ifCond .eq 24, 3) := by decide +kernel
theorem dX12_unit_8 : decode cX12_unit 8 = .ok (.aload_n 0, 1) := by decide +kernel
theorem dX12_unit_9 : decode cX12_unit 9 = .ok (.iconst 0, 1) := by decide +kernel
theorem dX12_unit_10 : decode cX12_unit 10 = .ok (.aload_n 0, 1) := by decide +kernel
theorem dX12_unit_11 : decode cX12_unit 11 = .ok (.getfield 27, 3) := by decide +kernel
theorem dX12_unit_14 : decode cX12_unit 14 = .ok (.aload_n 0, 1) := by decide +kernel
theorem dX12_unit_15 : decode cX12_unit 15 = .ok (.getfield 224, 3) := by decide +kernel
theorem dX12_unit_18 : decode cX12_unit 18 = .ok (.iaload, 1) := by decide +kernel
theorem dX12_unit_19 : decode cX12_unit 19 = .ok (.invokevirtual 320, 3) := by decide +kernel
theorem dX12_unit_22 : decode cX12_unit 22 = .ok (.aload_n 0, 1) := by decide +kernel
theorem dX12_unit_23 : decode cX12_unit 23 = .ok (.invokevirtual 242, 3) := by decide +kernel
theorem dX12_unit_26 : decode cX12_unit 26 = .ok (.goto 67, 3) := by decide +kernel
theorem dX12_unit_29 : decode cX12_unit 29 = .ok (.aload_n 0, 1) := by decide +kernel
theorem dX12_unit_30 : decode cX12_unit 30 = .ok (.getfield 221, 3) := by decide +kernel
theorem dX12_unit_33 : decode cX12_unit 33 = .ok (.ifCond .ne 55, 3) := by decide +kernel
theorem dX12_unit_36 : decode cX12_unit 36 = .ok (.aload_n 0, 1) := by decide +kernel
theorem dX12_unit_37 : decode cX12_unit 37 = .ok (.getfield 20, 3) := by decide +kernel
theorem dX12_unit_40 : decode cX12_unit 40 = .ok (.aload_n 0, 1) := by decide +kernel
theorem dX12_unit_41 : decode cX12_unit 41 = .ok (.getfield 224, 3) := by decide +kernel
theorem dX12_unit_44 : decode cX12_unit 44 = .ok (.iaload, 1) := by decide +kernel
theorem dX12_unit_45 : decode cX12_unit 45 = .ok (.bipush 34, 2) := by decide +kernel
theorem dX12_unit_47 : decode cX12_unit 47 = .ok (.if_icmp .lt 41, 3) := by decide +kernel
theorem dX12_unit_50 : decode cX12_unit 50 = .ok (.aload_n 0, 1) := by decide +kernel
theorem dX12_unit_51 : decode cX12_unit 51 = .ok (.getfield 20, 3) := by decide +kernel
theorem dX12_unit_54 : decode cX12_unit 54 = .ok (.aload_n 0, 1) := by decide +kernel
theorem dX12_unit_55 : decode cX12_unit 55 = .ok (.getfield 224, 3) := by decide +kernel
theorem dX12_unit_58 : decode cX12_unit 58 = .ok (.iaload, 1) := by decide +kernel
theorem dX12_unit_59 : decode cX12_unit 59 = .ok (.bipush 42, 2) := by decide +kernel
theorem dX12_unit_61 : decode cX12_unit 61 = .ok (.if_icmp .gt 27, 3) := by decide +kernel
theorem dX12_unit_64 : decode cX12_unit 64 = .ok (.aload_n 0, 1) := by decide +kernel
theorem dX12_unit_65 : decode cX12_unit 65 = .ok (.iconst 1, 1) := by decide +kernel
theorem dX12_unit_66 : decode cX12_unit 66 = .ok (.aload_n 0, 1) := by decide +kernel
theorem dX12_unit_67 : decode cX12_unit 67 = .ok (.getfield 20, 3) := by decide +kernel
theorem dX12_unit_70 : decode cX12_unit 70 = .ok (.aload_n 0, 1) := by decide +kernel
theorem dX12_unit_71 : decode cX12_unit 71 = .ok (.getfield 224, 3) := by decide +kernel
theorem dX12_unit_74 : decode cX12_unit 74 = .ok (.iaload, 1) := by decide +kernel
theorem dX12_unit_75 : decode cX12_unit 75 = .ok (.bipush 34, 2) := by decide +kernel
theorem dX12_unit_77 : decode cX12_unit 77 = .ok (.isub, 1) := by decide +kernel
theorem dX12_unit_78 : decode cX12_unit 78 = .ok (.invokevirtual 320, 3) := by decide +kernel
theorem dX12_unit_81 : decode cX12_unit 81 = .ok (.aload_n 0, 1) := by decide +kernel
theorem dX12_unit_82 : decode cX12_unit 82 = .ok (.invokevirtual 242, 3) := by decide +kernel
theorem dX12_unit_85 : decode cX12_unit 85 = .ok (.goto 8, 3) := by decide +kernel
theorem dX12_unit_88 : decode cX12_unit 88 = .ok (.aload_n 0, 1) := by decide +kernel
theorem dX12_unit_89 : decode cX12_unit 89 = .ok (.iconst 1, 1) := by decide +kernel
theorem dX12_unit_90 : decode cX12_unit 90 = .ok (.invokevirtual 236, 3) := by decide +kernel
theorem dX12_unit_93 : decode cX12_unit 93 = .ok (.return_, 1) := by decide +kernel
theorem dX12_termOf_0 : decode cX12_termOf 0 = .ok (.iconst 0, 1) := by decide +kernel
theorem dX12_termOf_1 : decode cX12_termOf 1 = .ok (.istore_n 3, 1) := by decide +kernel
theorem dX12_termOf_2 : decode cX12_termOf 2 = .ok (.iload_n 1, 1) := by decide +kernel
theorem dX12_termOf_3 : decode cX12_termOf 3 = .ok (.istore 4, 2) := by decide +kernel
theorem dX12_termOf_5 : decode cX12_termOf 5 = .ok (.iload 4, 2) := by decide +kernel
theorem dX12_termOf_7 : decode cX12_termOf 7 = .ok (.iload_n 2, 1) := by decide +kernel
theorem dX12_termOf_8 : decode cX12_termOf 8 = .ok (.if_icmp .ge 157, 3) := by decide +kernel
theorem dX12_termOf_11 : decode cX12_termOf 11 = .ok (.aload_n 0, 1) := by decide +kernel
theorem dX12_termOf_12 : decode cX12_termOf 12 = .ok (.getfield 110, 3) := by decide +kernel
theorem dX12_termOf_15 : decode cX12_termOf 15 = .ok (.iload 4, 2) := by decide +kernel
theorem dX12_termOf_17 : decode cX12_termOf 17 = .ok (.iaload, 1) := by decide +kernel
theorem dX12_termOf_18 : decode cX12_termOf 18 = .ok (.istore 5, 2) := by decide +kernel
theorem dX12_termOf_20 : decode cX12_termOf 20 = .ok (.iload 5, 2) := by decide +kernel
theorem dX12_termOf_22 : decode cX12_termOf 22 = .ok (.iconst 2, 1) := by decide +kernel
theorem dX12_termOf_23 : decode cX12_termOf 23 = .ok (.if_icmp .ge 42, 3) := by decide +kernel
theorem dX12_termOf_26 : decode cX12_termOf 26 = .ok (.aload_n 0, 1) := by decide +kernel
theorem dX12_termOf_27 : decode cX12_termOf 27 = .ok (.getfield 122, 3) := by decide +kernel
theorem dX12_termOf_30 : decode cX12_termOf 30 = .ok (.iload_n 3, 1) := by decide +kernel
theorem dX12_termOf_31 : decode cX12_termOf 31 = .ok (.iload 5, 2) := by decide +kernel
theorem dX12_termOf_33 : decode cX12_termOf 33 = .ok (.ifCond .ne 13, 3) := by decide +kernel
theorem dX12_termOf_36 : decode cX12_termOf 36 = .ok (.aload_n 0, 1) := by decide +kernel
theorem dX12_termOf_37 : decode cX12_termOf 37 = .ok (.getfield 113, 3) := by decide +kernel
theorem dX12_termOf_40 : decode cX12_termOf 40 = .ok (.iload 4, 2) := by decide +kernel
theorem dX12_termOf_42 : decode cX12_termOf 42 = .ok (.iaload, 1) := by decide +kernel
theorem dX12_termOf_43 : decode cX12_termOf 43 = .ok (.goto 15, 3) := by decide +kernel
theorem dX12_termOf_46 : decode cX12_termOf 46 = .ok (.aload_n 0, 1) := by decide +kernel
theorem dX12_termOf_47 : decode cX12_termOf 47 = .ok (.getfield 119, 3) := by decide +kernel
theorem dX12_termOf_50 : decode cX12_termOf 50 = .ok (.aload_n 0, 1) := by decide +kernel
theorem dX12_termOf_51 : decode cX12_termOf 51 = .ok (.getfield 113, 3) := by decide +kernel
theorem dX12_termOf_54 : decode cX12_termOf 54 = .ok (.iload 4, 2) := by decide +kernel
theorem dX12_termOf_56 : decode cX12_termOf 56 = .ok (.iaload, 1) := by decide +kernel
theorem dX12_termOf_57 : decode cX12_termOf 57 = .ok (.iaload, 1) := by decide +kernel
theorem dX12_termOf_58 : decode cX12_termOf 58 = .ok (.iastore, 1) := by decide +kernel
theorem dX12_termOf_59 : decode cX12_termOf 59 = .ok (.iinc 3 1, 3) := by decide +kernel
theorem dX12_termOf_62 : decode cX12_termOf 62 = .ok (.goto 97, 3) := by decide +kernel
theorem dX12_termOf_65 : decode cX12_termOf 65 = .ok (.iinc 3 (-1), 3) := by decide +kernel
theorem dX12_termOf_68 : decode cX12_termOf 68 = .ok (.aload_n 0, 1) := by decide +kernel
theorem dX12_termOf_69 : decode cX12_termOf 69 = .ok (.getfield 122, 3) := by decide +kernel
theorem dX12_termOf_72 : decode cX12_termOf 72 = .ok (.iload_n 3, 1) := by decide +kernel
theorem dX12_termOf_73 : decode cX12_termOf 73 = .ok (.iconst 1, 1) := by decide +kernel
theorem dX12_termOf_74 : decode cX12_termOf 74 = .ok (.isub, 1) := by decide +kernel
theorem dX12_termOf_75 : decode cX12_termOf 75 = .ok (.iaload, 1) := by decide +kernel
theorem dX12_termOf_76 : decode cX12_termOf 76 = .ok (.istore 6, 2) := by decide +kernel
theorem dX12_termOf_78 : decode cX12_termOf 78 = .ok (.aload_n 0, 1) := by decide +kernel
theorem dX12_termOf_79 : decode cX12_termOf 79 = .ok (.getfield 122, 3) := by decide +kernel
theorem dX12_termOf_82 : decode cX12_termOf 82 = .ok (.iload_n 3, 1) := by decide +kernel
theorem dX12_termOf_83 : decode cX12_termOf 83 = .ok (.iaload, 1) := by decide +kernel
theorem dX12_termOf_84 : decode cX12_termOf 84 = .ok (.istore 7, 2) := by decide +kernel
theorem dX12_termOf_86 : decode cX12_termOf 86 = .ok (.iload 5, 2) := by decide +kernel
theorem dX12_termOf_88 : decode cX12_termOf 88 = .ok (.iconst 5, 1) := by decide +kernel
theorem dX12_termOf_89 : decode cX12_termOf 89 = .ok (.if_icmp .ne 15, 3) := by decide +kernel
theorem dX12_termOf_92 : decode cX12_termOf 92 = .ok (.iload 7, 2) := by decide +kernel
theorem dX12_termOf_94 : decode cX12_termOf 94 = .ok (.ifCond .ne 10, 3) := by decide +kernel
theorem dX12_termOf_97 : decode cX12_termOf 97 = .ok (.aload_n 0, 1) := by decide +kernel
theorem dX12_termOf_98 : decode cX12_termOf 98 = .ok (.iconst 1, 1) := by decide +kernel
theorem dX12_termOf_99 : decode cX12_termOf 99 = .ok (.putfield 330, 3) := by decide +kernel
theorem dX12_termOf_102 : decode cX12_termOf 102 = .ok (.iconst 0, 1) := by decide +kernel
theorem dX12_termOf_103 : decode cX12_termOf 103 = .ok (.ireturn, 1) := by decide +kernel
theorem dX12_termOf_104 : decode cX12_termOf 104 = .ok (.aload_n 0, 1) := by decide +kernel
theorem dX12_termOf_105 : decode cX12_termOf 105 = .ok (.getfield 122, 3) := by decide +kernel
theorem dX12_termOf_108 : decode cX12_termOf 108 = .ok (.iload_n 3, 1) := by decide +kernel
theorem dX12_termOf_109 : decode cX12_termOf 109 = .ok (.iconst 1, 1) := by decide +kernel
theorem dX12_termOf_110 : decode cX12_termOf 110 = .ok (.isub, 1) := by decide +kernel
theorem dX12_termOf_111 : decode cX12_termOf 111 = .ok (.iload 5, 2) := by decide +kernel
theorem dX12_termOf_113 : decode cX12_termOf 113 = .ok (.iconst 2, 1) := by decide +kernel
theorem dX12_termOf_114 : decode cX12_termOf 114 = .ok (.if_icmp .ne 11, 3) := by decide +kernel
theorem dX12_termOf_117 : decode cX12_termOf 117 = .ok (.iload 6, 2) := by decide +kernel
theorem dX12_termOf_119 : decode cX12_termOf 119 = .ok (.iload 7, 2) := by decide +kernel
theorem dX12_termOf_121 : decode cX12_termOf 121 = .ok (.iadd, 1) := by decide +kernel
theorem dX12_termOf_122 : decode cX12_termOf 122 = .ok (.goto 36, 3) := by decide +kernel
theorem dX12_termOf_125 : decode cX12_termOf 125 = .ok (.iload 5, 2) := by decide +kernel
theorem dX12_termOf_127 : decode cX12_termOf 127 = .ok (.iconst 3, 1) := by decide +kernel
theorem dX12_termOf_128 : decode cX12_termOf 128 = .ok (.if_icmp .ne 11, 3) := by decide +kernel
theorem dX12_termOf_131 : decode cX12_termOf 131 = .ok (.iload 6, 2) := by decide +kernel
theorem dX12_termOf_133 : decode cX12_termOf 133 = .ok (.iload 7, 2) := by decide +kernel
theorem dX12_termOf_135 : decode cX12_termOf 135 = .ok (.isub, 1) := by decide +kernel
theorem dX12_termOf_136 : decode cX12_termOf 136 = .ok (.goto 22, 3) := by decide +kernel
theorem dX12_termOf_139 : decode cX12_termOf 139 = .ok (.iload 5, 2) := by decide +kernel
theorem dX12_termOf_141 : decode cX12_termOf 141 = .ok (.iconst 4, 1) := by decide +kernel
theorem dX12_termOf_142 : decode cX12_termOf 142 = .ok (.if_icmp .ne 11, 3) := by decide +kernel
theorem dX12_termOf_145 : decode cX12_termOf 145 = .ok (.iload 6, 2) := by decide +kernel
theorem dX12_termOf_147 : decode cX12_termOf 147 = .ok (.iload 7, 2) := by decide +kernel
theorem dX12_termOf_149 : decode cX12_termOf 149 = .ok (.imul, 1) := by decide +kernel
theorem dX12_termOf_150 : decode cX12_termOf 150 = .ok (.goto 8, 3) := by decide +kernel
theorem dX12_termOf_153 : decode cX12_termOf 153 = .ok (.iload 6, 2) := by decide +kernel
theorem dX12_termOf_155 : decode cX12_termOf 155 = .ok (.iload 7, 2) := by decide +kernel
theorem dX12_termOf_157 : decode cX12_termOf 157 = .ok (.idiv, 1) := by decide +kernel
theorem dX12_termOf_158 : decode cX12_termOf 158 = .ok (.iastore, 1) := by decide +kernel
theorem dX12_termOf_159 : decode cX12_termOf 159 = .ok (.iinc 4 1, 3) := by decide +kernel
theorem dX12_termOf_162 : decode cX12_termOf 162 = .ok (.goto (-157), 3) := by decide +kernel
theorem dX12_termOf_165 : decode cX12_termOf 165 = .ok (.aload_n 0, 1) := by decide +kernel
theorem dX12_termOf_166 : decode cX12_termOf 166 = .ok (.getfield 122, 3) := by decide +kernel
theorem dX12_termOf_169 : decode cX12_termOf 169 = .ok (.iconst 0, 1) := by decide +kernel
theorem dX12_termOf_170 : decode cX12_termOf 170 = .ok (.iaload, 1) := by decide +kernel
theorem dX12_termOf_171 : decode cX12_termOf 171 = .ok (.ireturn, 1) := by decide +kernel
theorem dX12_in_0 : decode cX12_in 0 = .ok (.iload_n 0, 1) := by decide +kernel
theorem dX12_in_1 : decode cX12_in 1 = .ok (.iload_n 1, 1) := by decide +kernel
theorem dX12_in_2 : decode cX12_in 2 = .ok (.if_icmp .lt 12, 3) := by decide +kernel
theorem dX12_in_5 : decode cX12_in 5 = .ok (.iload_n 0, 1) := by decide +kernel
theorem dX12_in_6 : decode cX12_in 6 = .ok (.iload_n 2, 1) := by decide +kernel
theorem dX12_in_7 : decode cX12_in 7 = .ok (.if_icmp .gt 7, 3) := by decide +kernel
theorem dX12_in_10 : decode cX12_in 10 = .ok (.iconst 1, 1) := by decide +kernel
theorem dX12_in_11 : decode cX12_in 11 = .ok (.goto 4, 3) := by decide +kernel
theorem dX12_in_14 : decode cX12_in 14 = .ok (.iconst 0, 1) := by decide +kernel
theorem dX12_in_15 : decode cX12_in 15 = .ok (.ireturn, 1) := by decide +kernel
theorem dX12_within_0 : decode cX12_within 0 = .ok (.iload_n 0, 1) := by decide +kernel
theorem dX12_within_1 : decode cX12_within 1 = .ok (.iload_n 1, 1) := by decide +kernel
theorem dX12_within_2 : decode cX12_within 2 = .ok (.if_icmp .ge 7, 3) := by decide +kernel
theorem dX12_within_5 : decode cX12_within 5 = .ok (.iload_n 1, 1) := by decide +kernel
theorem dX12_within_6 : decode cX12_within 6 = .ok (.goto 13, 3) := by decide +kernel
theorem dX12_within_9 : decode cX12_within 9 = .ok (.iload_n 0, 1) := by decide +kernel
theorem dX12_within_10 : decode cX12_within 10 = .ok (.iload_n 2, 1) := by decide +kernel
theorem dX12_within_11 : decode cX12_within 11 = .ok (.if_icmp .le 7, 3) := by decide +kernel
theorem dX12_within_14 : decode cX12_within 14 = .ok (.iload_n 2, 1) := by decide +kernel
theorem dX12_within_15 : decode cX12_within 15 = .ok (.goto 4, 3) := by decide +kernel
theorem dX12_within_18 : decode cX12_within 18 = .ok (.iload_n 0, 1) := by decide +kernel
theorem dX12_within_19 : decode cX12_within 19 = .ok (.ireturn, 1) := by decide +kernel
theorem dX12_bits_0 : decode cX12_bits 0 = .ok (.iconst 0, 1) := by decide +kernel
theorem dX12_bits_1 : decode cX12_bits 1 = .ok (.istore_n 1, 1) := by decide +kernel
theorem dX12_bits_2 : decode cX12_bits 2 = .ok (.iconst 0, 1) := by decide +kernel
theorem dX12_bits_3 : decode cX12_bits 3 = .ok (.istore_n 2, 1) := by decide +kernel
theorem dX12_bits_4 : decode cX12_bits 4 = .ok (.iload_n 2, 1) := by decide +kernel
theorem dX12_bits_5 : decode cX12_bits 5 = .ok (.bipush 10, 2) := by decide +kernel
theorem dX12_bits_7 : decode cX12_bits 7 = .ok (.if_icmp .ge 17, 3) := by decide +kernel
theorem dX12_bits_10 : decode cX12_bits 10 = .ok (.iload_n 1, 1) := by decide +kernel
theorem dX12_bits_11 : decode cX12_bits 11 = .ok (.iload_n 0, 1) := by decide +kernel
theorem dX12_bits_12 : decode cX12_bits 12 = .ok (.iload_n 2, 1) := by decide +kernel
theorem dX12_bits_13 : decode cX12_bits 13 = .ok (.ishr, 1) := by decide +kernel
theorem dX12_bits_14 : decode cX12_bits 14 = .ok (.iconst 1, 1) := by decide +kernel
theorem dX12_bits_15 : decode cX12_bits 15 = .ok (.iand, 1) := by decide +kernel
theorem dX12_bits_16 : decode cX12_bits 16 = .ok (.iadd, 1) := by decide +kernel
theorem dX12_bits_17 : decode cX12_bits 17 = .ok (.istore_n 1, 1) := by decide +kernel
theorem dX12_bits_18 : decode cX12_bits 18 = .ok (.iinc 2 1, 3) := by decide +kernel
theorem dX12_bits_21 : decode cX12_bits 21 = .ok (.goto (-17), 3) := by decide +kernel
theorem dX12_bits_24 : decode cX12_bits 24 = .ok (.iload_n 1, 1) := by decide +kernel
theorem dX12_bits_25 : decode cX12_bits 25 = .ok (.ireturn, 1) := by decide +kernel
theorem dX12_isCorner_0 : decode cX12_isCorner 0 = .ok (.iload_n 1, 1) := by decide +kernel
theorem dX12_isCorner_1 : decode cX12_isCorner 1 = .ok (.iconst 0, 1) := by decide +kernel
theorem dX12_isCorner_2 : decode cX12_isCorner 2 = .ok (.aload_n 0, 1) := by decide +kernel
theorem dX12_isCorner_3 : decode cX12_isCorner 3 = .ok (.getfield 46, 3) := by decide +kernel
theorem dX12_isCorner_6 : decode cX12_isCorner 6 = .ok (.aload_n 0, 1) := by decide +kernel
theorem dX12_isCorner_7 : decode cX12_isCorner 7 = .ok (.getfield 251, 3) := by decide +kernel
theorem dX12_isCorner_10 : decode cX12_isCorner 10 = .ok (.iaload, 1) := by decide +kernel
theorem dX12_isCorner_11 : decode cX12_isCorner 11 = .ok (.iconst 1, 1) := by decide +kernel
theorem dX12_isCorner_12 : decode cX12_isCorner 12 = .ok (.isub, 1) := by decide +kernel
theorem dX12_isCorner_13 : decode cX12_isCorner 13 = .ok (.invokestatic 334, 3) := by decide +kernel
theorem dX12_isCorner_16 : decode cX12_isCorner 16 = .ok (.ireturn, 1) := by decide +kernel
theorem dX12_isStreet_0 : decode cX12_isStreet 0 = .ok (.iload_n 1, 1) := by decide +kernel
theorem dX12_isStreet_1 : decode cX12_isStreet 1 = .ok (.iconst 0, 1) := by decide +kernel
theorem dX12_isStreet_2 : decode cX12_isStreet 2 = .ok (.aload_n 0, 1) := by decide +kernel
theorem dX12_isStreet_3 : decode cX12_isStreet 3 = .ok (.getfield 49, 3) := by decide +kernel
theorem dX12_isStreet_6 : decode cX12_isStreet 6 = .ok (.aload_n 0, 1) := by decide +kernel
theorem dX12_isStreet_7 : decode cX12_isStreet 7 = .ok (.getfield 251, 3) := by decide +kernel
theorem dX12_isStreet_10 : decode cX12_isStreet 10 = .ok (.iaload, 1) := by decide +kernel
theorem dX12_isStreet_11 : decode cX12_isStreet 11 = .ok (.iconst 1, 1) := by decide +kernel
theorem dX12_isStreet_12 : decode cX12_isStreet 12 = .ok (.isub, 1) := by decide +kernel
theorem dX12_isStreet_13 : decode cX12_isStreet 13 = .ok (.invokestatic 334, 3) := by decide +kernel
theorem dX12_isStreet_16 : decode cX12_isStreet 16 = .ok (.ireturn, 1) := by decide +kernel
theorem dX12_isYoung_0 : decode cX12_isYoung 0 = .ok (.iload_n 1, 1) := by decide +kernel
theorem dX12_isYoung_1 : decode cX12_isYoung 1 = .ok (.iconst 0, 1) := by decide +kernel
theorem dX12_isYoung_2 : decode cX12_isYoung 2 = .ok (.aload_n 0, 1) := by decide +kernel
theorem dX12_isYoung_3 : decode cX12_isYoung 3 = .ok (.getfield 61, 3) := by decide +kernel
theorem dX12_isYoung_6 : decode cX12_isYoung 6 = .ok (.aload_n 0, 1) := by decide +kernel
theorem dX12_isYoung_7 : decode cX12_isYoung 7 = .ok (.getfield 251, 3) := by decide +kernel
theorem dX12_isYoung_10 : decode cX12_isYoung 10 = .ok (.iaload, 1) := by decide +kernel
theorem dX12_isYoung_11 : decode cX12_isYoung 11 = .ok (.iconst 1, 1) := by decide +kernel
theorem dX12_isYoung_12 : decode cX12_isYoung 12 = .ok (.isub, 1) := by decide +kernel
theorem dX12_isYoung_13 : decode cX12_isYoung 13 = .ok (.invokestatic 334, 3) := by decide +kernel
theorem dX12_isYoung_16 : decode cX12_isYoung 16 = .ok (.ireturn, 1) := by decide +kernel
theorem dX12_isWord_0 : decode cX12_isWord 0 = .ok (.iload_n 1, 1) := by decide +kernel
theorem dX12_isWord_1 : decode cX12_isWord 1 = .ok (.iconst 0, 1) := by decide +kernel
theorem dX12_isWord_2 : decode cX12_isWord 2 = .ok (.aload_n 0, 1) := by decide +kernel
theorem dX12_isWord_3 : decode cX12_isWord 3 = .ok (.getfield 73, 3) := by decide +kernel
theorem dX12_isWord_6 : decode cX12_isWord 6 = .ok (.aload_n 0, 1) := by decide +kernel
theorem dX12_isWord_7 : decode cX12_isWord 7 = .ok (.getfield 251, 3) := by decide +kernel
theorem dX12_isWord_10 : decode cX12_isWord 10 = .ok (.iaload, 1) := by decide +kernel
theorem dX12_isWord_11 : decode cX12_isWord 11 = .ok (.iconst 1, 1) := by decide +kernel
theorem dX12_isWord_12 : decode cX12_isWord 12 = .ok (.isub, 1) := by decide +kernel
theorem dX12_isWord_13 : decode cX12_isWord 13 = .ok (.invokestatic 334, 3) := by decide +kernel
theorem dX12_isWord_16 : decode cX12_isWord 16 = .ok (.ireturn, 1) := by decide +kernel
theorem dX12_isOut_0 : decode cX12_isOut 0 = .ok (.aload_n 0, 1) := by decide +kernel
theorem dX12_isOut_1 : decode cX12_isOut 1 = .ok (.iload_n 1, 1) := by decide +kernel
theorem dX12_isOut_2 : decode cX12_isOut 2 = .ok (.invokevirtual 338, 3) := by decide +kernel
theorem dX12_isOut_5 : decode cX12_isOut 5 = .ok (.ifCond .eq 19, 3) := by decide +kernel
theorem dX12_isOut_8 : decode cX12_isOut 8 = .ok (.aload_n 0, 1) := by decide +kernel
theorem dX12_isOut_9 : decode cX12_isOut 9 = .ok (.getfield 125, 3) := by decide +kernel
theorem dX12_isOut_12 : decode cX12_isOut 12 = .ok (.bipush 12, 2) := by decide +kernel
theorem dX12_isOut_14 : decode cX12_isOut 14 = .ok (.iload_n 1, 1) := by decide +kernel
theorem dX12_isOut_15 : decode cX12_isOut 15 = .ok (.iadd, 1) := by decide +kernel
theorem dX12_isOut_16 : decode cX12_isOut 16 = .ok (.iaload, 1) := by decide +kernel
theorem dX12_isOut_17 : decode cX12_isOut 17 = .ok (.ifCond .ne 7, 3) := by decide +kernel
theorem dX12_isOut_20 : decode cX12_isOut 20 = .ok (.iconst 1, 1) := by decide +kernel
theorem dX12_isOut_21 : decode cX12_isOut 21 = .ok (.goto 4, 3) := by decide +kernel
theorem dX12_isOut_24 : decode cX12_isOut 24 = .ok (.iconst 0, 1) := by decide +kernel
theorem dX12_isOut_25 : decode cX12_isOut 25 = .ok (.ireturn, 1) := by decide +kernel
theorem dX12_begins_0 : decode cX12_begins 0 = .ok (.iconst 0, 1) := by decide +kernel
theorem dX12_begins_1 : decode cX12_begins 1 = .ok (.istore_n 1, 1) := by decide +kernel
theorem dX12_begins_2 : decode cX12_begins 2 = .ok (.iload_n 1, 1) := by decide +kernel
theorem dX12_begins_3 : decode cX12_begins 3 = .ok (.bipush 48, 2) := by decide +kernel
theorem dX12_begins_5 : decode cX12_begins 5 = .ok (.if_icmp .ge 16, 3) := by decide +kernel
theorem dX12_begins_8 : decode cX12_begins 8 = .ok (.aload_n 0, 1) := by decide +kernel
theorem dX12_begins_9 : decode cX12_begins 9 = .ok (.getfield 128, 3) := by decide +kernel
theorem dX12_begins_12 : decode cX12_begins 12 = .ok (.iload_n 1, 1) := by decide +kernel
theorem dX12_begins_13 : decode cX12_begins 13 = .ok (.iconst 0, 1) := by decide +kernel
theorem dX12_begins_14 : decode cX12_begins 14 = .ok (.iastore, 1) := by decide +kernel
theorem dX12_begins_15 : decode cX12_begins 15 = .ok (.iinc 1 1, 3) := by decide +kernel
theorem dX12_begins_18 : decode cX12_begins 18 = .ok (.goto (-16), 3) := by decide +kernel
theorem dX12_begins_21 : decode cX12_begins 21 = .ok (.iconst 0, 1) := by decide +kernel
theorem dX12_begins_22 : decode cX12_begins 22 = .ok (.istore_n 1, 1) := by decide +kernel
theorem dX12_begins_23 : decode cX12_begins 23 = .ok (.iload_n 1, 1) := by decide +kernel
theorem dX12_begins_24 : decode cX12_begins 24 = .ok (.aload_n 0, 1) := by decide +kernel
theorem dX12_begins_25 : decode cX12_begins 25 = .ok (.getfield 61, 3) := by decide +kernel
theorem dX12_begins_28 : decode cX12_begins 28 = .ok (.aload_n 0, 1) := by decide +kernel
theorem dX12_begins_29 : decode cX12_begins 29 = .ok (.getfield 251, 3) := by decide +kernel
theorem dX12_begins_32 : decode cX12_begins 32 = .ok (.iaload, 1) := by decide +kernel
theorem dX12_begins_33 : decode cX12_begins 33 = .ok (.if_icmp .ge 29, 3) := by decide +kernel
theorem dX12_begins_36 : decode cX12_begins 36 = .ok (.aload_n 0, 1) := by decide +kernel
theorem dX12_begins_37 : decode cX12_begins 37 = .ok (.getfield 128, 3) := by decide +kernel
theorem dX12_begins_40 : decode cX12_begins 40 = .ok (.iload_n 1, 1) := by decide +kernel
theorem dX12_begins_41 : decode cX12_begins 41 = .ok (.aload_n 0, 1) := by decide +kernel
theorem dX12_begins_42 : decode cX12_begins 42 = .ok (.getfield 70, 3) := by decide +kernel
theorem dX12_begins_45 : decode cX12_begins 45 = .ok (.bipush 6, 2) := by decide +kernel
theorem dX12_begins_47 : decode cX12_begins 47 = .ok (.aload_n 0, 1) := by decide +kernel
theorem dX12_begins_48 : decode cX12_begins 48 = .ok (.getfield 251, 3) := by decide +kernel
theorem dX12_begins_51 : decode cX12_begins 51 = .ok (.imul, 1) := by decide +kernel
theorem dX12_begins_52 : decode cX12_begins 52 = .ok (.iload_n 1, 1) := by decide +kernel
theorem dX12_begins_53 : decode cX12_begins 53 = .ok (.iadd, 1) := by decide +kernel
theorem dX12_begins_54 : decode cX12_begins 54 = .ok (.iaload, 1) := by decide +kernel
theorem dX12_begins_55 : decode cX12_begins 55 = .ok (.iastore, 1) := by decide +kernel
theorem dX12_begins_56 : decode cX12_begins 56 = .ok (.iinc 1 1, 3) := by decide +kernel
theorem dX12_begins_59 : decode cX12_begins 59 = .ok (.goto (-36), 3) := by decide +kernel
theorem dX12_begins_62 : decode cX12_begins 62 = .ok (.iconst 0, 1) := by decide +kernel
theorem dX12_begins_63 : decode cX12_begins 63 = .ok (.istore_n 1, 1) := by decide +kernel
theorem dX12_begins_64 : decode cX12_begins 64 = .ok (.iload_n 1, 1) := by decide +kernel
theorem dX12_begins_65 : decode cX12_begins 65 = .ok (.aload_n 0, 1) := by decide +kernel
theorem dX12_begins_66 : decode cX12_begins 66 = .ok (.getfield 73, 3) := by decide +kernel
theorem dX12_begins_69 : decode cX12_begins 69 = .ok (.aload_n 0, 1) := by decide +kernel
theorem dX12_begins_70 : decode cX12_begins 70 = .ok (.getfield 251, 3) := by decide +kernel
theorem dX12_begins_73 : decode cX12_begins 73 = .ok (.iaload, 1) := by decide +kernel
theorem dX12_begins_74 : decode cX12_begins 74 = .ok (.if_icmp .ge 31, 3) := by decide +kernel
theorem dX12_begins_77 : decode cX12_begins 77 = .ok (.aload_n 0, 1) := by decide +kernel
theorem dX12_begins_78 : decode cX12_begins 78 = .ok (.getfield 128, 3) := by decide +kernel
theorem dX12_begins_81 : decode cX12_begins 81 = .ok (.bipush 36, 2) := by decide +kernel
theorem dX12_begins_83 : decode cX12_begins 83 = .ok (.iload_n 1, 1) := by decide +kernel
theorem dX12_begins_84 : decode cX12_begins 84 = .ok (.iadd, 1) := by decide +kernel
theorem dX12_begins_85 : decode cX12_begins 85 = .ok (.aload_n 0, 1) := by decide +kernel
theorem dX12_begins_86 : decode cX12_begins 86 = .ok (.getfield 76, 3) := by decide +kernel
theorem dX12_begins_89 : decode cX12_begins 89 = .ok (.iconst 5, 1) := by decide +kernel
theorem dX12_begins_90 : decode cX12_begins 90 = .ok (.aload_n 0, 1) := by decide +kernel
theorem dX12_begins_91 : decode cX12_begins 91 = .ok (.getfield 251, 3) := by decide +kernel
theorem dX12_begins_94 : decode cX12_begins 94 = .ok (.imul, 1) := by decide +kernel
theorem dX12_begins_95 : decode cX12_begins 95 = .ok (.iload_n 1, 1) := by decide +kernel
theorem dX12_begins_96 : decode cX12_begins 96 = .ok (.iadd, 1) := by decide +kernel
theorem dX12_begins_97 : decode cX12_begins 97 = .ok (.iaload, 1) := by decide +kernel
theorem dX12_begins_98 : decode cX12_begins 98 = .ok (.iastore, 1) := by decide +kernel
theorem dX12_begins_99 : decode cX12_begins 99 = .ok (.iinc 1 1, 3) := by decide +kernel
theorem dX12_begins_102 : decode cX12_begins 102 = .ok (.goto (-38), 3) := by decide +kernel
theorem dX12_begins_105 : decode cX12_begins 105 = .ok (.aload_n 0, 1) := by decide +kernel
theorem dX12_begins_106 : decode cX12_begins 106 = .ok (.getfield 128, 3) := by decide +kernel
theorem dX12_begins_109 : decode cX12_begins 109 = .ok (.bipush 46, 2) := by decide +kernel
theorem dX12_begins_111 : decode cX12_begins 111 = .ok (.aload_n 0, 1) := by decide +kernel
theorem dX12_begins_112 : decode cX12_begins 112 = .ok (.getfield 46, 3) := by decide +kernel
theorem dX12_begins_115 : decode cX12_begins 115 = .ok (.aload_n 0, 1) := by decide +kernel
theorem dX12_begins_116 : decode cX12_begins 116 = .ok (.getfield 251, 3) := by decide +kernel
theorem dX12_begins_119 : decode cX12_begins 119 = .ok (.iaload, 1) := by decide +kernel
theorem dX12_begins_120 : decode cX12_begins 120 = .ok (.ifCond .ne 8, 3) := by decide +kernel
theorem dX12_begins_123 : decode cX12_begins 123 = .ok (.bipush (-2), 2) := by decide +kernel
theorem dX12_begins_125 : decode cX12_begins 125 = .ok (.goto 12, 3) := by decide +kernel
theorem dX12_begins_128 : decode cX12_begins 128 = .ok (.aload_n 0, 1) := by decide +kernel
theorem dX12_begins_129 : decode cX12_begins 129 = .ok (.getfield 79, 3) := by decide +kernel
theorem dX12_begins_132 : decode cX12_begins 132 = .ok (.aload_n 0, 1) := by decide +kernel
theorem dX12_begins_133 : decode cX12_begins 133 = .ok (.getfield 251, 3) := by decide +kernel
theorem dX12_begins_136 : decode cX12_begins 136 = .ok (.iaload, 1) := by decide +kernel
theorem dX12_begins_137 : decode cX12_begins 137 = .ok (.iastore, 1) := by decide +kernel
theorem dX12_begins_138 : decode cX12_begins 138 = .ok (.aload_n 0, 1) := by decide +kernel
theorem dX12_begins_139 : decode cX12_begins 139 = .ok (.aload_n 0, 1) := by decide +kernel
theorem dX12_begins_140 : decode cX12_begins 140 = .ok (.getfield 85, 3) := by decide +kernel
theorem dX12_begins_143 : decode cX12_begins 143 = .ok (.aload_n 0, 1) := by decide +kernel
theorem dX12_begins_144 : decode cX12_begins 144 = .ok (.getfield 251, 3) := by decide +kernel
theorem dX12_begins_147 : decode cX12_begins 147 = .ok (.iaload, 1) := by decide +kernel
theorem dX12_begins_148 : decode cX12_begins 148 = .ok (.putfield 341, 3) := by decide +kernel
theorem dX12_begins_151 : decode cX12_begins 151 = .ok (.aload_n 0, 1) := by decide +kernel
theorem dX12_begins_152 : decode cX12_begins 152 = .ok (.iconst 0, 1) := by decide +kernel
theorem dX12_begins_153 : decode cX12_begins 153 = .ok (.putfield 344, 3) := by decide +kernel
theorem dX12_begins_156 : decode cX12_begins 156 = .ok (.return_, 1) := by decide +kernel
theorem dX12_keepsRow_0 : decode cX12_keepsRow 0 = .ok (.iconst 0, 1) := by decide +kernel
theorem dX12_keepsRow_1 : decode cX12_keepsRow 1 = .ok (.istore_n 1, 1) := by decide +kernel
theorem dX12_keepsRow_2 : decode cX12_keepsRow 2 = .ok (.iload_n 1, 1) := by decide +kernel
theorem dX12_keepsRow_3 : decode cX12_keepsRow 3 = .ok (.bipush 48, 2) := by decide +kernel
theorem dX12_keepsRow_5 : decode cX12_keepsRow 5 = .ok (.if_icmp .ge 21, 3) := by decide +kernel
theorem dX12_keepsRow_8 : decode cX12_keepsRow 8 = .ok (.aload_n 0, 1) := by decide +kernel
theorem dX12_keepsRow_9 : decode cX12_keepsRow 9 = .ok (.getfield 125, 3) := by decide +kernel
theorem dX12_keepsRow_12 : decode cX12_keepsRow 12 = .ok (.iload_n 1, 1) := by decide +kernel
theorem dX12_keepsRow_13 : decode cX12_keepsRow 13 = .ok (.aload_n 0, 1) := by decide +kernel
theorem dX12_keepsRow_14 : decode cX12_keepsRow 14 = .ok (.getfield 128, 3) := by decide +kernel
theorem dX12_keepsRow_17 : decode cX12_keepsRow 17 = .ok (.iload_n 1, 1) := by decide +kernel
theorem dX12_keepsRow_18 : decode cX12_keepsRow 18 = .ok (.iaload, 1) := by decide +kernel
theorem dX12_keepsRow_19 : decode cX12_keepsRow 19 = .ok (.iastore, 1) := by decide +kernel
theorem dX12_keepsRow_20 : decode cX12_keepsRow 20 = .ok (.iinc 1 1, 3) := by decide +kernel
theorem dX12_keepsRow_23 : decode cX12_keepsRow 23 = .ok (.goto (-21), 3) := by decide +kernel
theorem dX12_keepsRow_26 : decode cX12_keepsRow 26 = .ok (.return_, 1) := by decide +kernel
theorem dX12_copies_0 : decode cX12_copies 0 = .ok (.iconst 0, 1) := by decide +kernel
theorem dX12_copies_1 : decode cX12_copies 1 = .ok (.istore_n 1, 1) := by decide +kernel
theorem dX12_copies_2 : decode cX12_copies 2 = .ok (.iload_n 1, 1) := by decide +kernel
theorem dX12_copies_3 : decode cX12_copies 3 = .ok (.bipush 48, 2) := by decide +kernel
theorem dX12_copies_5 : decode cX12_copies 5 = .ok (.if_icmp .ge 21, 3) := by decide +kernel
theorem dX12_copies_8 : decode cX12_copies 8 = .ok (.aload_n 0, 1) := by decide +kernel
theorem dX12_copies_9 : decode cX12_copies 9 = .ok (.getfield 128, 3) := by decide +kernel
theorem dX12_copies_12 : decode cX12_copies 12 = .ok (.iload_n 1, 1) := by decide +kernel
theorem dX12_copies_13 : decode cX12_copies 13 = .ok (.aload_n 0, 1) := by decide +kernel
theorem dX12_copies_14 : decode cX12_copies 14 = .ok (.getfield 125, 3) := by decide +kernel
theorem dX12_copies_17 : decode cX12_copies 17 = .ok (.iload_n 1, 1) := by decide +kernel
theorem dX12_copies_18 : decode cX12_copies 18 = .ok (.iaload, 1) := by decide +kernel
theorem dX12_copies_19 : decode cX12_copies 19 = .ok (.iastore, 1) := by decide +kernel
theorem dX12_copies_20 : decode cX12_copies 20 = .ok (.iinc 1 1, 3) := by decide +kernel
theorem dX12_copies_23 : decode cX12_copies 23 = .ok (.goto (-21), 3) := by decide +kernel
theorem dX12_copies_26 : decode cX12_copies 26 = .ok (.aload_n 0, 1) := by decide +kernel
theorem dX12_copies_27 : decode cX12_copies 27 = .ok (.aload_n 0, 1) := by decide +kernel
theorem dX12_copies_28 : decode cX12_copies 28 = .ok (.getfield 85, 3) := by decide +kernel
theorem dX12_copies_31 : decode cX12_copies 31 = .ok (.aload_n 0, 1) := by decide +kernel
theorem dX12_copies_32 : decode cX12_copies 32 = .ok (.getfield 251, 3) := by decide +kernel
theorem dX12_copies_35 : decode cX12_copies 35 = .ok (.iaload, 1) := by decide +kernel
theorem dX12_copies_36 : decode cX12_copies 36 = .ok (.putfield 341, 3) := by decide +kernel
theorem dX12_copies_39 : decode cX12_copies 39 = .ok (.aload_n 0, 1) := by decide +kernel
theorem dX12_copies_40 : decode cX12_copies 40 = .ok (.iconst 0, 1) := by decide +kernel
theorem dX12_copies_41 : decode cX12_copies 41 = .ok (.putfield 344, 3) := by decide +kernel
theorem dX12_copies_44 : decode cX12_copies 44 = .ok (.return_, 1) := by decide +kernel
theorem dX12_copiesStill_0 : decode cX12_copiesStill 0 = .ok (.aload_n 0, 1) := by decide +kernel
theorem dX12_copiesStill_1 : decode cX12_copiesStill 1 = .ok (.invokevirtual 347, 3) := by decide +kernel
theorem dX12_copiesStill_4 : decode cX12_copiesStill 4 = .ok (.aload_n 0, 1) := by decide +kernel
theorem dX12_copiesStill_5 : decode cX12_copiesStill 5 = .ok (.iconst 1, 1) := by decide +kernel
theorem dX12_copiesStill_6 : decode cX12_copiesStill 6 = .ok (.putfield 344, 3) := by decide +kernel
theorem dX12_copiesStill_9 : decode cX12_copiesStill 9 = .ok (.return_, 1) := by decide +kernel
theorem dX12_mixed_0 : decode cX12_mixed 0 = .ok (.iload_n 0, 1) := by decide +kernel
theorem dX12_mixed_1 : decode cX12_mixed 1 = .ok (.iload_n 1, 1) := by decide +kernel
theorem dX12_mixed_2 : decode cX12_mixed 2 = .ok (.ixor, 1) := by decide +kernel
theorem dX12_mixed_3 : decode cX12_mixed 3 = .ok (.ldc_w 350, 3) := by decide +kernel
theorem dX12_mixed_6 : decode cX12_mixed 6 = .ok (.imul, 1) := by decide +kernel
theorem dX12_mixed_7 : decode cX12_mixed 7 = .ok (.sipush 12345, 3) := by decide +kernel
theorem dX12_mixed_10 : decode cX12_mixed 10 = .ok (.iadd, 1) := by decide +kernel
theorem dX12_mixed_11 : decode cX12_mixed 11 = .ok (.istore_n 2, 1) := by decide +kernel
theorem dX12_mixed_12 : decode cX12_mixed 12 = .ok (.iload_n 2, 1) := by decide +kernel
theorem dX12_mixed_13 : decode cX12_mixed 13 = .ok (.iload_n 2, 1) := by decide +kernel
theorem dX12_mixed_14 : decode cX12_mixed 14 = .ok (.bipush 15, 2) := by decide +kernel
theorem dX12_mixed_16 : decode cX12_mixed 16 = .ok (.iushr, 1) := by decide +kernel
theorem dX12_mixed_17 : decode cX12_mixed 17 = .ok (.ixor, 1) := by decide +kernel
theorem dX12_mixed_18 : decode cX12_mixed 18 = .ok (.ireturn, 1) := by decide +kernel
theorem dX12_lotOf_0 : decode cX12_lotOf 0 = .ok (.aload_n 0, 1) := by decide +kernel
theorem dX12_lotOf_1 : decode cX12_lotOf 1 = .ok (.getfield 341, 3) := by decide +kernel
theorem dX12_lotOf_4 : decode cX12_lotOf 4 = .ok (.sipush 175, 3) := by decide +kernel
theorem dX12_lotOf_7 : decode cX12_lotOf 7 = .ok (.invokestatic 351, 3) := by decide +kernel
theorem dX12_lotOf_10 : decode cX12_lotOf 10 = .ok (.iload_n 1, 1) := by decide +kernel
theorem dX12_lotOf_11 : decode cX12_lotOf 11 = .ok (.invokestatic 351, 3) := by decide +kernel
theorem dX12_lotOf_14 : decode cX12_lotOf 14 = .ok (.iconst 1, 1) := by decide +kernel
theorem dX12_lotOf_15 : decode cX12_lotOf 15 = .ok (.iushr, 1) := by decide +kernel
theorem dX12_lotOf_16 : decode cX12_lotOf 16 = .ok (.iload_n 2, 1) := by decide +kernel
theorem dX12_lotOf_17 : decode cX12_lotOf 17 = .ok (.irem, 1) := by decide +kernel
theorem dX12_lotOf_18 : decode cX12_lotOf 18 = .ok (.ireturn, 1) := by decide +kernel
theorem dX12_isDraught_0 : decode cX12_isDraught 0 = .ok (.aload_n 0, 1) := by decide +kernel
theorem dX12_isDraught_1 : decode cX12_isDraught 1 = .ok (.iconst 4, 1) := by decide +kernel
theorem dX12_isDraught_2 : decode cX12_isDraught 2 = .ok (.aload_n 0, 1) := by decide +kernel
theorem dX12_isDraught_3 : decode cX12_isDraught 3 = .ok (.getfield 128, 3) := by decide +kernel
theorem dX12_isDraught_6 : decode cX12_isDraught 6 = .ok (.bipush 47, 2) := by decide +kernel
theorem dX12_isDraught_8 : decode cX12_isDraught 8 = .ok (.iaload, 1) := by decide +kernel
theorem dX12_isDraught_9 : decode cX12_isDraught 9 = .ok (.imul, 1) := by decide +kernel
theorem dX12_isDraught_10 : decode cX12_isDraught 10 = .ok (.bipush 100, 2) := by decide +kernel
theorem dX12_isDraught_12 : decode cX12_isDraught 12 = .ok (.invokevirtual 354, 3) := by decide +kernel
theorem dX12_isDraught_15 : decode cX12_isDraught 15 = .ok (.aload_n 0, 1) := by decide +kernel
theorem dX12_isDraught_16 : decode cX12_isDraught 16 = .ok (.getfield 82, 3) := by decide +kernel
theorem dX12_isDraught_19 : decode cX12_isDraught 19 = .ok (.aload_n 0, 1) := by decide +kernel
theorem dX12_isDraught_20 : decode cX12_isDraught 20 = .ok (.getfield 251, 3) := by decide +kernel
theorem dX12_isDraught_23 : decode cX12_isDraught 23 = .ok (.iaload, 1) := by decide +kernel
theorem dX12_isDraught_24 : decode cX12_isDraught 24 = .ok (.if_icmp .ge 7, 3) := by decide +kernel
theorem dX12_isDraught_27 : decode cX12_isDraught 27 = .ok (.iconst 1, 1) := by decide +kernel
theorem dX12_isDraught_28 : decode cX12_isDraught 28 = .ok (.goto 4, 3) := by decide +kernel
theorem dX12_isDraught_31 : decode cX12_isDraught 31 = .ok (.iconst 0, 1) := by decide +kernel
theorem dX12_isDraught_32 : decode cX12_isDraught 32 = .ok (.ireturn, 1) := by decide +kernel
theorem dX12_lawTells_0 : decode cX12_lawTells 0 = .ok (.iconst 4, 1) := by decide +kernel
theorem dX12_lawTells_1 : decode cX12_lawTells 1 = .ok (.aload_n 0, 1) := by decide +kernel
theorem dX12_lawTells_2 : decode cX12_lawTells 2 = .ok (.getfield 251, 3) := by decide +kernel
theorem dX12_lawTells_5 : decode cX12_lawTells 5 = .ok (.imul, 1) := by decide +kernel
theorem dX12_lawTells_6 : decode cX12_lawTells 6 = .ok (.iload_n 1, 1) := by decide +kernel
theorem dX12_lawTells_7 : decode cX12_lawTells 7 = .ok (.iadd, 1) := by decide +kernel
theorem dX12_lawTells_8 : decode cX12_lawTells 8 = .ok (.istore_n 3, 1) := by decide +kernel
theorem dX12_lawTells_9 : decode cX12_lawTells 9 = .ok (.aload_n 0, 1) := by decide +kernel
theorem dX12_lawTells_10 : decode cX12_lawTells 10 = .ok (.getfield 88, 3) := by decide +kernel
theorem dX12_lawTells_13 : decode cX12_lawTells 13 = .ok (.iload_n 3, 1) := by decide +kernel
theorem dX12_lawTells_14 : decode cX12_lawTells 14 = .ok (.iaload, 1) := by decide +kernel
theorem dX12_lawTells_15 : decode cX12_lawTells 15 = .ok (.aload_n 0, 1) := by decide +kernel
theorem dX12_lawTells_16 : decode cX12_lawTells 16 = .ok (.getfield 91, 3) := by decide +kernel
theorem dX12_lawTells_19 : decode cX12_lawTells 19 = .ok (.iload_n 3, 1) := by decide +kernel
theorem dX12_lawTells_20 : decode cX12_lawTells 20 = .ok (.iaload, 1) := by decide +kernel
theorem dX12_lawTells_21 : decode cX12_lawTells 21 = .ok (.if_icmp .ne 5, 3) := by decide +kernel
theorem dX12_lawTells_24 : decode cX12_lawTells 24 = .ok (.iload_n 2, 1) := by decide +kernel
theorem dX12_lawTells_25 : decode cX12_lawTells 25 = .ok (.ireturn, 1) := by decide +kernel
theorem dX12_lawTells_26 : decode cX12_lawTells 26 = .ok (.aload_n 0, 1) := by decide +kernel
theorem dX12_lawTells_27 : decode cX12_lawTells 27 = .ok (.iconst 0, 1) := by decide +kernel
theorem dX12_lawTells_28 : decode cX12_lawTells 28 = .ok (.putfield 330, 3) := by decide +kernel
theorem dX12_lawTells_31 : decode cX12_lawTells 31 = .ok (.aload_n 0, 1) := by decide +kernel
theorem dX12_lawTells_32 : decode cX12_lawTells 32 = .ok (.getfield 88, 3) := by decide +kernel
theorem dX12_lawTells_35 : decode cX12_lawTells 35 = .ok (.iload_n 3, 1) := by decide +kernel
theorem dX12_lawTells_36 : decode cX12_lawTells 36 = .ok (.iaload, 1) := by decide +kernel
theorem dX12_lawTells_37 : decode cX12_lawTells 37 = .ok (.istore 4, 2) := by decide +kernel
theorem dX12_lawTells_39 : decode cX12_lawTells 39 = .ok (.iload 4, 2) := by decide +kernel
theorem dX12_lawTells_41 : decode cX12_lawTells 41 = .ok (.aload_n 0, 1) := by decide +kernel
theorem dX12_lawTells_42 : decode cX12_lawTells 42 = .ok (.getfield 91, 3) := by decide +kernel
theorem dX12_lawTells_45 : decode cX12_lawTells 45 = .ok (.iload_n 3, 1) := by decide +kernel
theorem dX12_lawTells_46 : decode cX12_lawTells 46 = .ok (.iaload, 1) := by decide +kernel
theorem dX12_lawTells_47 : decode cX12_lawTells 47 = .ok (.if_icmp .ge 112, 3) := by decide +kernel
theorem dX12_lawTells_50 : decode cX12_lawTells 50 = .ok (.aload_n 0, 1) := by decide +kernel
theorem dX12_lawTells_51 : decode cX12_lawTells 51 = .ok (.getfield 94, 3) := by decide +kernel
theorem dX12_lawTells_54 : decode cX12_lawTells 54 = .ok (.iload 4, 2) := by decide +kernel
theorem dX12_lawTells_56 : decode cX12_lawTells 56 = .ok (.baload, 1) := by decide +kernel
theorem dX12_lawTells_57 : decode cX12_lawTells 57 = .ok (.ifCond .eq 62, 3) := by decide +kernel
theorem dX12_lawTells_60 : decode cX12_lawTells 60 = .ok (.aload_n 0, 1) := by decide +kernel
theorem dX12_lawTells_61 : decode cX12_lawTells 61 = .ok (.aload_n 0, 1) := by decide +kernel
theorem dX12_lawTells_62 : decode cX12_lawTells 62 = .ok (.getfield 98, 3) := by decide +kernel
theorem dX12_lawTells_65 : decode cX12_lawTells 65 = .ok (.iload 4, 2) := by decide +kernel
theorem dX12_lawTells_67 : decode cX12_lawTells 67 = .ok (.iaload, 1) := by decide +kernel
theorem dX12_lawTells_68 : decode cX12_lawTells 68 = .ok (.aload_n 0, 1) := by decide +kernel
theorem dX12_lawTells_69 : decode cX12_lawTells 69 = .ok (.getfield 101, 3) := by decide +kernel
theorem dX12_lawTells_72 : decode cX12_lawTells 72 = .ok (.iload 4, 2) := by decide +kernel
theorem dX12_lawTells_74 : decode cX12_lawTells 74 = .ok (.iaload, 1) := by decide +kernel
theorem dX12_lawTells_75 : decode cX12_lawTells 75 = .ok (.invokevirtual 357, 3) := by decide +kernel
theorem dX12_lawTells_78 : decode cX12_lawTells 78 = .ok (.istore 5, 2) := by decide +kernel
theorem dX12_lawTells_80 : decode cX12_lawTells 80 = .ok (.aload_n 0, 1) := by decide +kernel
theorem dX12_lawTells_81 : decode cX12_lawTells 81 = .ok (.aload_n 0, 1) := by decide +kernel
theorem dX12_lawTells_82 : decode cX12_lawTells 82 = .ok (.getfield 101, 3) := by decide +kernel
theorem dX12_lawTells_85 : decode cX12_lawTells 85 = .ok (.iload 4, 2) := by decide +kernel
theorem dX12_lawTells_87 : decode cX12_lawTells 87 = .ok (.iaload, 1) := by decide +kernel
theorem dX12_lawTells_88 : decode cX12_lawTells 88 = .ok (.aload_n 0, 1) := by decide +kernel
theorem dX12_lawTells_89 : decode cX12_lawTells 89 = .ok (.getfield 104, 3) := by decide +kernel
theorem dX12_lawTells_92 : decode cX12_lawTells 92 = .ok (.iload 4, 2) := by decide +kernel
theorem dX12_lawTells_94 : decode cX12_lawTells 94 = .ok (.iaload, 1) := by decide +kernel
theorem dX12_lawTells_95 : decode cX12_lawTells 95 = .ok (.invokevirtual 357, 3) := by decide +kernel
theorem dX12_lawTells_98 : decode cX12_lawTells 98 = .ok (.istore 6, 2) := by decide +kernel
theorem dX12_lawTells_100 : decode cX12_lawTells 100 = .ok (.aload_n 0, 1) := by decide +kernel
theorem dX12_lawTells_101 : decode cX12_lawTells 101 = .ok (.getfield 330, 3) := by decide +kernel
theorem dX12_lawTells_104 : decode cX12_lawTells 104 = .ok (.ifCond .eq 5, 3) := by decide +kernel
theorem dX12_lawTells_107 : decode cX12_lawTells 107 = .ok (.iconst 0, 1) := by decide +kernel
theorem dX12_lawTells_108 : decode cX12_lawTells 108 = .ok (.ireturn, 1) := by decide +kernel
theorem dX12_lawTells_109 : decode cX12_lawTells 109 = .ok (.iload 5, 2) := by decide +kernel
theorem dX12_lawTells_111 : decode cX12_lawTells 111 = .ok (.iload 6, 2) := by decide +kernel
theorem dX12_lawTells_113 : decode cX12_lawTells 113 = .ok (.if_icmp .lt 6, 3) := by decide +kernel
theorem dX12_lawTells_116 : decode cX12_lawTells 116 = .ok (.goto 37, 3) := by decide +kernel
theorem dX12_lawTells_119 : decode cX12_lawTells 119 = .ok (.aload_n 0, 1) := by decide +kernel
theorem dX12_lawTells_120 : decode cX12_lawTells 120 = .ok (.aload_n 0, 1) := by decide +kernel
theorem dX12_lawTells_121 : decode cX12_lawTells 121 = .ok (.getfield 104, 3) := by decide +kernel
theorem dX12_lawTells_124 : decode cX12_lawTells 124 = .ok (.iload 4, 2) := by decide +kernel
theorem dX12_lawTells_126 : decode cX12_lawTells 126 = .ok (.iaload, 1) := by decide +kernel
theorem dX12_lawTells_127 : decode cX12_lawTells 127 = .ok (.aload_n 0, 1) := by decide +kernel
theorem dX12_lawTells_128 : decode cX12_lawTells 128 = .ok (.getfield 107, 3) := by decide +kernel
theorem dX12_lawTells_131 : decode cX12_lawTells 131 = .ok (.iload 4, 2) := by decide +kernel
theorem dX12_lawTells_133 : decode cX12_lawTells 133 = .ok (.iaload, 1) := by decide +kernel
theorem dX12_lawTells_134 : decode cX12_lawTells 134 = .ok (.invokevirtual 357, 3) := by decide +kernel
theorem dX12_lawTells_137 : decode cX12_lawTells 137 = .ok (.istore 5, 2) := by decide +kernel
theorem dX12_lawTells_139 : decode cX12_lawTells 139 = .ok (.aload_n 0, 1) := by decide +kernel
theorem dX12_lawTells_140 : decode cX12_lawTells 140 = .ok (.getfield 330, 3) := by decide +kernel
theorem dX12_lawTells_143 : decode cX12_lawTells 143 = .ok (.ifCond .eq 7, 3) := by decide +kernel
theorem dX12_lawTells_146 : decode cX12_lawTells 146 = .ok (.iconst 0, 1) := by decide +kernel
theorem dX12_lawTells_147 : decode cX12_lawTells 147 = .ok (.goto 5, 3) := by decide +kernel
theorem dX12_lawTells_150 : decode cX12_lawTells 150 = .ok (.iload 5, 2) := by decide +kernel
theorem dX12_lawTells_152 : decode cX12_lawTells 152 = .ok (.ireturn, 1) := by decide +kernel
theorem dX12_lawTells_153 : decode cX12_lawTells 153 = .ok (.iinc 4 1, 3) := by decide +kernel
theorem dX12_lawTells_156 : decode cX12_lawTells 156 = .ok (.goto (-117), 3) := by decide +kernel
theorem dX12_lawTells_159 : decode cX12_lawTells 159 = .ok (.iconst 0, 1) := by decide +kernel
theorem dX12_lawTells_160 : decode cX12_lawTells 160 = .ok (.ireturn, 1) := by decide +kernel
theorem dX12_looks_0 : decode cX12_looks 0 = .ok (.aload_n 0, 1) := by decide +kernel
theorem dX12_looks_1 : decode cX12_looks 1 = .ok (.getfield 119, 3) := by decide +kernel
theorem dX12_looks_4 : decode cX12_looks 4 = .ok (.iconst 0, 1) := by decide +kernel
theorem dX12_looks_5 : decode cX12_looks 5 = .ok (.iload_n 2, 1) := by decide +kernel
theorem dX12_looks_6 : decode cX12_looks 6 = .ok (.iastore, 1) := by decide +kernel
theorem dX12_looks_7 : decode cX12_looks 7 = .ok (.aload_n 0, 1) := by decide +kernel
theorem dX12_looks_8 : decode cX12_looks 8 = .ok (.getfield 119, 3) := by decide +kernel
theorem dX12_looks_11 : decode cX12_looks 11 = .ok (.iconst 1, 1) := by decide +kernel
theorem dX12_looks_12 : decode cX12_looks 12 = .ok (.aload_n 0, 1) := by decide +kernel
theorem dX12_looks_13 : decode cX12_looks 13 = .ok (.getfield 64, 3) := by decide +kernel
theorem dX12_looks_16 : decode cX12_looks 16 = .ok (.bipush 6, 2) := by decide +kernel
theorem dX12_looks_18 : decode cX12_looks 18 = .ok (.aload_n 0, 1) := by decide +kernel
theorem dX12_looks_19 : decode cX12_looks 19 = .ok (.getfield 251, 3) := by decide +kernel
theorem dX12_looks_22 : decode cX12_looks 22 = .ok (.imul, 1) := by decide +kernel
theorem dX12_looks_23 : decode cX12_looks 23 = .ok (.iload_n 1, 1) := by decide +kernel
theorem dX12_looks_24 : decode cX12_looks 24 = .ok (.iadd, 1) := by decide +kernel
theorem dX12_looks_25 : decode cX12_looks 25 = .ok (.iaload, 1) := by decide +kernel
theorem dX12_looks_26 : decode cX12_looks 26 = .ok (.iastore, 1) := by decide +kernel
theorem dX12_looks_27 : decode cX12_looks 27 = .ok (.aload_n 0, 1) := by decide +kernel
theorem dX12_looks_28 : decode cX12_looks 28 = .ok (.getfield 119, 3) := by decide +kernel
theorem dX12_looks_31 : decode cX12_looks 31 = .ok (.iconst 2, 1) := by decide +kernel
theorem dX12_looks_32 : decode cX12_looks 32 = .ok (.aload_n 0, 1) := by decide +kernel
theorem dX12_looks_33 : decode cX12_looks 33 = .ok (.getfield 67, 3) := by decide +kernel
theorem dX12_looks_36 : decode cX12_looks 36 = .ok (.bipush 6, 2) := by decide +kernel
theorem dX12_looks_38 : decode cX12_looks 38 = .ok (.aload_n 0, 1) := by decide +kernel
theorem dX12_looks_39 : decode cX12_looks 39 = .ok (.getfield 251, 3) := by decide +kernel
theorem dX12_looks_42 : decode cX12_looks 42 = .ok (.imul, 1) := by decide +kernel
theorem dX12_looks_43 : decode cX12_looks 43 = .ok (.iload_n 1, 1) := by decide +kernel
theorem dX12_looks_44 : decode cX12_looks 44 = .ok (.iadd, 1) := by decide +kernel
theorem dX12_looks_45 : decode cX12_looks 45 = .ok (.iaload, 1) := by decide +kernel
theorem dX12_looks_46 : decode cX12_looks 46 = .ok (.iastore, 1) := by decide +kernel
theorem dX12_looks_47 : decode cX12_looks 47 = .ok (.aload_n 0, 1) := by decide +kernel
theorem dX12_looks_48 : decode cX12_looks 48 = .ok (.getfield 119, 3) := by decide +kernel
theorem dX12_looks_51 : decode cX12_looks 51 = .ok (.iconst 3, 1) := by decide +kernel
theorem dX12_looks_52 : decode cX12_looks 52 = .ok (.iload_n 3, 1) := by decide +kernel
theorem dX12_looks_53 : decode cX12_looks 53 = .ok (.iastore, 1) := by decide +kernel
theorem dX12_looks_54 : decode cX12_looks 54 = .ok (.aload_n 0, 1) := by decide +kernel
theorem dX12_looks_55 : decode cX12_looks 55 = .ok (.getfield 119, 3) := by decide +kernel
theorem dX12_looks_58 : decode cX12_looks 58 = .ok (.iconst 4, 1) := by decide +kernel
theorem dX12_looks_59 : decode cX12_looks 59 = .ok (.aload_n 0, 1) := by decide +kernel
theorem dX12_looks_60 : decode cX12_looks 60 = .ok (.getfield 128, 3) := by decide +kernel
theorem dX12_looks_63 : decode cX12_looks 63 = .ok (.bipush 47, 2) := by decide +kernel
theorem dX12_looks_65 : decode cX12_looks 65 = .ok (.iaload, 1) := by decide +kernel
theorem dX12_looks_66 : decode cX12_looks 66 = .ok (.aload_n 0, 1) := by decide +kernel
theorem dX12_looks_67 : decode cX12_looks 67 = .ok (.getfield 128, 3) := by decide +kernel
theorem dX12_looks_70 : decode cX12_looks 70 = .ok (.bipush 24, 2) := by decide +kernel
theorem dX12_looks_72 : decode cX12_looks 72 = .ok (.iload_n 1, 1) := by decide +kernel
theorem dX12_looks_73 : decode cX12_looks 73 = .ok (.iadd, 1) := by decide +kernel
theorem dX12_looks_74 : decode cX12_looks 74 = .ok (.iaload, 1) := by decide +kernel
theorem dX12_looks_75 : decode cX12_looks 75 = .ok (.isub, 1) := by decide +kernel
theorem dX12_looks_76 : decode cX12_looks 76 = .ok (.iastore, 1) := by decide +kernel
theorem dX12_looks_77 : decode cX12_looks 77 = .ok (.aload_n 0, 1) := by decide +kernel
theorem dX12_looks_78 : decode cX12_looks 78 = .ok (.getfield 119, 3) := by decide +kernel
theorem dX12_looks_81 : decode cX12_looks 81 = .ok (.iconst 5, 1) := by decide +kernel
theorem dX12_looks_82 : decode cX12_looks 82 = .ok (.aload_n 0, 1) := by decide +kernel
theorem dX12_looks_83 : decode cX12_looks 83 = .ok (.getfield 128, 3) := by decide +kernel
theorem dX12_looks_86 : decode cX12_looks 86 = .ok (.bipush 47, 2) := by decide +kernel
theorem dX12_looks_88 : decode cX12_looks 88 = .ok (.iaload, 1) := by decide +kernel
theorem dX12_looks_89 : decode cX12_looks 89 = .ok (.bipush 24, 2) := by decide +kernel
theorem dX12_looks_91 : decode cX12_looks 91 = .ok (.irem, 1) := by decide +kernel
theorem dX12_looks_92 : decode cX12_looks 92 = .ok (.iastore, 1) := by decide +kernel
theorem dX12_looks_93 : decode cX12_looks 93 = .ok (.aload_n 0, 1) := by decide +kernel
theorem dX12_looks_94 : decode cX12_looks 94 = .ok (.getfield 119, 3) := by decide +kernel
theorem dX12_looks_97 : decode cX12_looks 97 = .ok (.bipush 6, 2) := by decide +kernel
theorem dX12_looks_99 : decode cX12_looks 99 = .ok (.aload_n 0, 1) := by decide +kernel
theorem dX12_looks_100 : decode cX12_looks 100 = .ok (.getfield 128, 3) := by decide +kernel
theorem dX12_looks_103 : decode cX12_looks 103 = .ok (.bipush 6, 2) := by decide +kernel
theorem dX12_looks_105 : decode cX12_looks 105 = .ok (.iload_n 1, 1) := by decide +kernel
theorem dX12_looks_106 : decode cX12_looks 106 = .ok (.iadd, 1) := by decide +kernel
theorem dX12_looks_107 : decode cX12_looks 107 = .ok (.iaload, 1) := by decide +kernel
theorem dX12_looks_108 : decode cX12_looks 108 = .ok (.iastore, 1) := by decide +kernel
theorem dX12_looks_109 : decode cX12_looks 109 = .ok (.aload_n 0, 1) := by decide +kernel
theorem dX12_looks_110 : decode cX12_looks 110 = .ok (.getfield 119, 3) := by decide +kernel
theorem dX12_looks_113 : decode cX12_looks 113 = .ok (.bipush 7, 2) := by decide +kernel
theorem dX12_looks_115 : decode cX12_looks 115 = .ok (.iload_n 1, 1) := by decide +kernel
theorem dX12_looks_116 : decode cX12_looks 116 = .ok (.iastore, 1) := by decide +kernel
theorem dX12_looks_117 : decode cX12_looks 117 = .ok (.aload_n 0, 1) := by decide +kernel
theorem dX12_looks_118 : decode cX12_looks 118 = .ok (.getfield 119, 3) := by decide +kernel
theorem dX12_looks_121 : decode cX12_looks 121 = .ok (.bipush 8, 2) := by decide +kernel
theorem dX12_looks_123 : decode cX12_looks 123 = .ok (.aload_n 0, 1) := by decide +kernel
theorem dX12_looks_124 : decode cX12_looks 124 = .ok (.getfield 128, 3) := by decide +kernel
theorem dX12_looks_127 : decode cX12_looks 127 = .ok (.bipush 18, 2) := by decide +kernel
theorem dX12_looks_129 : decode cX12_looks 129 = .ok (.iload_n 1, 1) := by decide +kernel
theorem dX12_looks_130 : decode cX12_looks 130 = .ok (.iadd, 1) := by decide +kernel
theorem dX12_looks_131 : decode cX12_looks 131 = .ok (.iaload, 1) := by decide +kernel
theorem dX12_looks_132 : decode cX12_looks 132 = .ok (.iastore, 1) := by decide +kernel
theorem dX12_looks_133 : decode cX12_looks 133 = .ok (.return_, 1) := by decide +kernel
theorem dX12_glowsOf_0 : decode cX12_glowsOf 0 = .ok (.aload_n 0, 1) := by decide +kernel
theorem dX12_glowsOf_1 : decode cX12_glowsOf 1 = .ok (.iload_n 1, 1) := by decide +kernel
theorem dX12_glowsOf_2 : decode cX12_glowsOf 2 = .ok (.aload_n 0, 1) := by decide +kernel
theorem dX12_glowsOf_3 : decode cX12_glowsOf 3 = .ok (.getfield 128, 3) := by decide +kernel
theorem dX12_glowsOf_6 : decode cX12_glowsOf 6 = .ok (.bipush 36, 2) := by decide +kernel
theorem dX12_glowsOf_8 : decode cX12_glowsOf 8 = .ok (.iload_n 2, 1) := by decide +kernel
theorem dX12_glowsOf_9 : decode cX12_glowsOf 9 = .ok (.iadd, 1) := by decide +kernel
theorem dX12_glowsOf_10 : decode cX12_glowsOf 10 = .ok (.iaload, 1) := by decide +kernel
theorem dX12_glowsOf_11 : decode cX12_glowsOf 11 = .ok (.aload_n 0, 1) := by decide +kernel
theorem dX12_glowsOf_12 : decode cX12_glowsOf 12 = .ok (.getfield 128, 3) := by decide +kernel
theorem dX12_glowsOf_15 : decode cX12_glowsOf 15 = .ok (.bipush 41, 2) := by decide +kernel
theorem dX12_glowsOf_17 : decode cX12_glowsOf 17 = .ok (.iload_n 2, 1) := by decide +kernel
theorem dX12_glowsOf_18 : decode cX12_glowsOf 18 = .ok (.iadd, 1) := by decide +kernel
theorem dX12_glowsOf_19 : decode cX12_glowsOf 19 = .ok (.iaload, 1) := by decide +kernel
theorem dX12_glowsOf_20 : decode cX12_glowsOf 20 = .ok (.invokevirtual 360, 3) := by decide +kernel
theorem dX12_glowsOf_23 : decode cX12_glowsOf 23 = .ok (.aload_n 0, 1) := by decide +kernel
theorem dX12_glowsOf_24 : decode cX12_glowsOf 24 = .ok (.iconst 0, 1) := by decide +kernel
theorem dX12_glowsOf_25 : decode cX12_glowsOf 25 = .ok (.aload_n 0, 1) := by decide +kernel
theorem dX12_glowsOf_26 : decode cX12_glowsOf 26 = .ok (.getfield 128, 3) := by decide +kernel
theorem dX12_glowsOf_29 : decode cX12_glowsOf 29 = .ok (.bipush 36, 2) := by decide +kernel
theorem dX12_glowsOf_31 : decode cX12_glowsOf 31 = .ok (.iload_n 2, 1) := by decide +kernel
theorem dX12_glowsOf_32 : decode cX12_glowsOf 32 = .ok (.iadd, 1) := by decide +kernel
theorem dX12_glowsOf_33 : decode cX12_glowsOf 33 = .ok (.iaload, 1) := by decide +kernel
theorem dX12_glowsOf_34 : decode cX12_glowsOf 34 = .ok (.invokevirtual 364, 3) := by decide +kernel
theorem dX12_glowsOf_37 : decode cX12_glowsOf 37 = .ok (.iconst 0, 1) := by decide +kernel
theorem dX12_glowsOf_38 : decode cX12_glowsOf 38 = .ok (.bipush 99, 2) := by decide +kernel
theorem dX12_glowsOf_40 : decode cX12_glowsOf 40 = .ok (.invokestatic 367, 3) := by decide +kernel
theorem dX12_glowsOf_43 : decode cX12_glowsOf 43 = .ok (.ireturn, 1) := by decide +kernel
theorem dX12_wearsOf_0 : decode cX12_wearsOf 0 = .ok (.aload_n 0, 1) := by decide +kernel
theorem dX12_wearsOf_1 : decode cX12_wearsOf 1 = .ok (.iload_n 1, 1) := by decide +kernel
theorem dX12_wearsOf_2 : decode cX12_wearsOf 2 = .ok (.aload_n 0, 1) := by decide +kernel
theorem dX12_wearsOf_3 : decode cX12_wearsOf 3 = .ok (.getfield 128, 3) := by decide +kernel
theorem dX12_wearsOf_6 : decode cX12_wearsOf 6 = .ok (.bipush 36, 2) := by decide +kernel
theorem dX12_wearsOf_8 : decode cX12_wearsOf 8 = .ok (.iload_n 2, 1) := by decide +kernel
theorem dX12_wearsOf_9 : decode cX12_wearsOf 9 = .ok (.iadd, 1) := by decide +kernel
theorem dX12_wearsOf_10 : decode cX12_wearsOf 10 = .ok (.iaload, 1) := by decide +kernel
theorem dX12_wearsOf_11 : decode cX12_wearsOf 11 = .ok (.aload_n 0, 1) := by decide +kernel
theorem dX12_wearsOf_12 : decode cX12_wearsOf 12 = .ok (.getfield 128, 3) := by decide +kernel
theorem dX12_wearsOf_15 : decode cX12_wearsOf 15 = .ok (.bipush 41, 2) := by decide +kernel
theorem dX12_wearsOf_17 : decode cX12_wearsOf 17 = .ok (.iload_n 2, 1) := by decide +kernel
theorem dX12_wearsOf_18 : decode cX12_wearsOf 18 = .ok (.iadd, 1) := by decide +kernel
theorem dX12_wearsOf_19 : decode cX12_wearsOf 19 = .ok (.iaload, 1) := by decide +kernel
theorem dX12_wearsOf_20 : decode cX12_wearsOf 20 = .ok (.invokevirtual 360, 3) := by decide +kernel
theorem dX12_wearsOf_23 : decode cX12_wearsOf 23 = .ok (.aload_n 0, 1) := by decide +kernel
theorem dX12_wearsOf_24 : decode cX12_wearsOf 24 = .ok (.iconst 1, 1) := by decide +kernel
theorem dX12_wearsOf_25 : decode cX12_wearsOf 25 = .ok (.iconst 1, 1) := by decide +kernel
theorem dX12_wearsOf_26 : decode cX12_wearsOf 26 = .ok (.invokevirtual 364, 3) := by decide +kernel
theorem dX12_wearsOf_29 : decode cX12_wearsOf 29 = .ok (.iconst 0, 1) := by decide +kernel
theorem dX12_wearsOf_30 : decode cX12_wearsOf 30 = .ok (.bipush 99, 2) := by decide +kernel
theorem dX12_wearsOf_32 : decode cX12_wearsOf 32 = .ok (.invokestatic 367, 3) := by decide +kernel
theorem dX12_wearsOf_35 : decode cX12_wearsOf 35 = .ok (.ireturn, 1) := by decide +kernel
theorem dX12_coolsOf_0 : decode cX12_coolsOf 0 = .ok (.aload_n 0, 1) := by decide +kernel
theorem dX12_coolsOf_1 : decode cX12_coolsOf 1 = .ok (.iload_n 1, 1) := by decide +kernel
theorem dX12_coolsOf_2 : decode cX12_coolsOf 2 = .ok (.iconst 0, 1) := by decide +kernel
theorem dX12_coolsOf_3 : decode cX12_coolsOf 3 = .ok (.iconst 0, 1) := by decide +kernel
theorem dX12_coolsOf_4 : decode cX12_coolsOf 4 = .ok (.invokevirtual 360, 3) := by decide +kernel
theorem dX12_coolsOf_7 : decode cX12_coolsOf 7 = .ok (.aload_n 0, 1) := by decide +kernel
theorem dX12_coolsOf_8 : decode cX12_coolsOf 8 = .ok (.iconst 2, 1) := by decide +kernel
theorem dX12_coolsOf_9 : decode cX12_coolsOf 9 = .ok (.iconst 0, 1) := by decide +kernel
theorem dX12_coolsOf_10 : decode cX12_coolsOf 10 = .ok (.invokevirtual 364, 3) := by decide +kernel
theorem dX12_coolsOf_13 : decode cX12_coolsOf 13 = .ok (.iconst 0, 1) := by decide +kernel
theorem dX12_coolsOf_14 : decode cX12_coolsOf 14 = .ok (.bipush 99, 2) := by decide +kernel
theorem dX12_coolsOf_16 : decode cX12_coolsOf 16 = .ok (.invokestatic 367, 3) := by decide +kernel
theorem dX12_coolsOf_19 : decode cX12_coolsOf 19 = .ok (.ireturn, 1) := by decide +kernel
theorem dX12_doesLeave_0 : decode cX12_doesLeave 0 = .ok (.aload_n 0, 1) := by decide +kernel
theorem dX12_doesLeave_1 : decode cX12_doesLeave 1 = .ok (.iload_n 1, 1) := by decide +kernel
theorem dX12_doesLeave_2 : decode cX12_doesLeave 2 = .ok (.iconst 0, 1) := by decide +kernel
theorem dX12_doesLeave_3 : decode cX12_doesLeave 3 = .ok (.iconst 0, 1) := by decide +kernel
theorem dX12_doesLeave_4 : decode cX12_doesLeave 4 = .ok (.invokevirtual 360, 3) := by decide +kernel
theorem dX12_doesLeave_7 : decode cX12_doesLeave 7 = .ok (.aload_n 0, 1) := by decide +kernel
theorem dX12_doesLeave_8 : decode cX12_doesLeave 8 = .ok (.getfield 128, 3) := by decide +kernel
theorem dX12_doesLeave_11 : decode cX12_doesLeave 11 = .ok (.bipush 12, 2) := by decide +kernel
theorem dX12_doesLeave_13 : decode cX12_doesLeave 13 = .ok (.iload_n 1, 1) := by decide +kernel
theorem dX12_doesLeave_14 : decode cX12_doesLeave 14 = .ok (.iadd, 1) := by decide +kernel
theorem dX12_doesLeave_15 : decode cX12_doesLeave 15 = .ok (.iaload, 1) := by decide +kernel
theorem dX12_doesLeave_16 : decode cX12_doesLeave 16 = .ok (.ifCond .ne 16, 3) := by decide +kernel
theorem dX12_doesLeave_19 : decode cX12_doesLeave 19 = .ok (.aload_n 0, 1) := by decide +kernel
theorem dX12_doesLeave_20 : decode cX12_doesLeave 20 = .ok (.iconst 3, 1) := by decide +kernel
theorem dX12_doesLeave_21 : decode cX12_doesLeave 21 = .ok (.iconst 0, 1) := by decide +kernel
theorem dX12_doesLeave_22 : decode cX12_doesLeave 22 = .ok (.invokevirtual 364, 3) := by decide +kernel
theorem dX12_doesLeave_25 : decode cX12_doesLeave 25 = .ok (.ifCond .le 7, 3) := by decide +kernel
theorem dX12_doesLeave_28 : decode cX12_doesLeave 28 = .ok (.iconst 1, 1) := by decide +kernel
theorem dX12_doesLeave_29 : decode cX12_doesLeave 29 = .ok (.goto 4, 3) := by decide +kernel
theorem dX12_doesLeave_32 : decode cX12_doesLeave 32 = .ok (.iconst 0, 1) := by decide +kernel
theorem dX12_doesLeave_33 : decode cX12_doesLeave 33 = .ok (.ireturn, 1) := by decide +kernel
theorem dX12_says_0 : decode cX12_says 0 = .ok (.aload_n 0, 1) := by decide +kernel
theorem dX12_says_1 : decode cX12_says 1 = .ok (.iload_n 1, 1) := by decide +kernel
theorem dX12_says_2 : decode cX12_says 2 = .ok (.iload_n 2, 1) := by decide +kernel
theorem dX12_says_3 : decode cX12_says 3 = .ok (.invokevirtual 370, 3) := by decide +kernel
theorem dX12_says_6 : decode cX12_says 6 = .ok (.istore_n 3, 1) := by decide +kernel
theorem dX12_says_7 : decode cX12_says 7 = .ok (.aload_n 0, 1) := by decide +kernel
theorem dX12_says_8 : decode cX12_says 8 = .ok (.iload_n 1, 1) := by decide +kernel
theorem dX12_says_9 : decode cX12_says 9 = .ok (.iload_n 2, 1) := by decide +kernel
theorem dX12_says_10 : decode cX12_says 10 = .ok (.invokevirtual 373, 3) := by decide +kernel
theorem dX12_says_13 : decode cX12_says 13 = .ok (.istore 4, 2) := by decide +kernel
theorem dX12_says_15 : decode cX12_says 15 = .ok (.aload_n 0, 1) := by decide +kernel
theorem dX12_says_16 : decode cX12_says 16 = .ok (.getfield 128, 3) := by decide +kernel
theorem dX12_says_19 : decode cX12_says 19 = .ok (.bipush 6, 2) := by decide +kernel
theorem dX12_says_21 : decode cX12_says 21 = .ok (.iload_n 1, 1) := by decide +kernel
theorem dX12_says_22 : decode cX12_says 22 = .ok (.iadd, 1) := by decide +kernel
theorem dX12_says_23 : decode cX12_says 23 = .ok (.aload_n 0, 1) := by decide +kernel
theorem dX12_says_24 : decode cX12_says 24 = .ok (.getfield 128, 3) := by decide +kernel
theorem dX12_says_27 : decode cX12_says 27 = .ok (.bipush 6, 2) := by decide +kernel
theorem dX12_says_29 : decode cX12_says 29 = .ok (.iload_n 1, 1) := by decide +kernel
theorem dX12_says_30 : decode cX12_says 30 = .ok (.iadd, 1) := by decide +kernel
theorem dX12_says_31 : decode cX12_says 31 = .ok (.iaload, 1) := by decide +kernel
theorem dX12_says_32 : decode cX12_says 32 = .ok (.iload_n 3, 1) := by decide +kernel
theorem dX12_says_33 : decode cX12_says 33 = .ok (.iadd, 1) := by decide +kernel
theorem dX12_says_34 : decode cX12_says 34 = .ok (.iconst 0, 1) := by decide +kernel
theorem dX12_says_35 : decode cX12_says 35 = .ok (.sipush 999, 3) := by decide +kernel
theorem dX12_says_38 : decode cX12_says 38 = .ok (.invokestatic 367, 3) := by decide +kernel
theorem dX12_says_41 : decode cX12_says 41 = .ok (.iastore, 1) := by decide +kernel
theorem dX12_says_42 : decode cX12_says 42 = .ok (.aload_n 0, 1) := by decide +kernel
theorem dX12_says_43 : decode cX12_says 43 = .ok (.getfield 128, 3) := by decide +kernel
theorem dX12_says_46 : decode cX12_says 46 = .ok (.bipush 36, 2) := by decide +kernel
theorem dX12_says_48 : decode cX12_says 48 = .ok (.iload_n 2, 1) := by decide +kernel
theorem dX12_says_49 : decode cX12_says 49 = .ok (.iadd, 1) := by decide +kernel
theorem dX12_says_50 : decode cX12_says 50 = .ok (.aload_n 0, 1) := by decide +kernel
theorem dX12_says_51 : decode cX12_says 51 = .ok (.getfield 128, 3) := by decide +kernel
theorem dX12_says_54 : decode cX12_says 54 = .ok (.bipush 36, 2) := by decide +kernel
theorem dX12_says_56 : decode cX12_says 56 = .ok (.iload_n 2, 1) := by decide +kernel
theorem dX12_says_57 : decode cX12_says 57 = .ok (.iadd, 1) := by decide +kernel
theorem dX12_says_58 : decode cX12_says 58 = .ok (.iaload, 1) := by decide +kernel
theorem dX12_says_59 : decode cX12_says 59 = .ok (.iload 4, 2) := by decide +kernel
theorem dX12_says_61 : decode cX12_says 61 = .ok (.isub, 1) := by decide +kernel
theorem dX12_says_62 : decode cX12_says 62 = .ok (.iconst 0, 1) := by decide +kernel
theorem dX12_says_63 : decode cX12_says 63 = .ok (.bipush 99, 2) := by decide +kernel
theorem dX12_says_65 : decode cX12_says 65 = .ok (.invokestatic 367, 3) := by decide +kernel
theorem dX12_says_68 : decode cX12_says 68 = .ok (.iastore, 1) := by decide +kernel
theorem dX12_says_69 : decode cX12_says 69 = .ok (.aload_n 0, 1) := by decide +kernel
theorem dX12_says_70 : decode cX12_says 70 = .ok (.getfield 128, 3) := by decide +kernel
theorem dX12_says_73 : decode cX12_says 73 = .ok (.bipush 41, 2) := by decide +kernel
theorem dX12_says_75 : decode cX12_says 75 = .ok (.iload_n 2, 1) := by decide +kernel
theorem dX12_says_76 : decode cX12_says 76 = .ok (.iadd, 1) := by decide +kernel
theorem dX12_says_77 : decode cX12_says 77 = .ok (.dup2, 1) := by decide +kernel
theorem dX12_says_78 : decode cX12_says 78 = .ok (.iaload, 1) := by decide +kernel
theorem dX12_says_79 : decode cX12_says 79 = .ok (.iconst 1, 1) := by decide +kernel
theorem dX12_says_80 : decode cX12_says 80 = .ok (.iadd, 1) := by decide +kernel
theorem dX12_says_81 : decode cX12_says 81 = .ok (.iastore, 1) := by decide +kernel
theorem dX12_says_82 : decode cX12_says 82 = .ok (.aload_n 0, 1) := by decide +kernel
theorem dX12_says_83 : decode cX12_says 83 = .ok (.getfield 128, 3) := by decide +kernel
theorem dX12_says_86 : decode cX12_says 86 = .ok (.bipush 18, 2) := by decide +kernel
theorem dX12_says_88 : decode cX12_says 88 = .ok (.iload_n 1, 1) := by decide +kernel
theorem dX12_says_89 : decode cX12_says 89 = .ok (.iadd, 1) := by decide +kernel
theorem dX12_says_90 : decode cX12_says 90 = .ok (.dup2, 1) := by decide +kernel
theorem dX12_says_91 : decode cX12_says 91 = .ok (.iaload, 1) := by decide +kernel
theorem dX12_says_92 : decode cX12_says 92 = .ok (.iconst 1, 1) := by decide +kernel
theorem dX12_says_93 : decode cX12_says 93 = .ok (.iadd, 1) := by decide +kernel
theorem dX12_says_94 : decode cX12_says 94 = .ok (.iastore, 1) := by decide +kernel
theorem dX12_says_95 : decode cX12_says 95 = .ok (.aload_n 0, 1) := by decide +kernel
theorem dX12_says_96 : decode cX12_says 96 = .ok (.getfield 128, 3) := by decide +kernel
theorem dX12_says_99 : decode cX12_says 99 = .ok (.bipush 24, 2) := by decide +kernel
theorem dX12_says_101 : decode cX12_says 101 = .ok (.iload_n 1, 1) := by decide +kernel
theorem dX12_says_102 : decode cX12_says 102 = .ok (.iadd, 1) := by decide +kernel
theorem dX12_says_103 : decode cX12_says 103 = .ok (.aload_n 0, 1) := by decide +kernel
theorem dX12_says_104 : decode cX12_says 104 = .ok (.getfield 128, 3) := by decide +kernel
theorem dX12_says_107 : decode cX12_says 107 = .ok (.bipush 47, 2) := by decide +kernel
theorem dX12_says_109 : decode cX12_says 109 = .ok (.iaload, 1) := by decide +kernel
theorem dX12_says_110 : decode cX12_says 110 = .ok (.iastore, 1) := by decide +kernel
theorem dX12_says_111 : decode cX12_says 111 = .ok (.return_, 1) := by decide +kernel
theorem dX12_hourGoes_0 : decode cX12_hourGoes 0 = .ok (.iconst 0, 1) := by decide +kernel
theorem dX12_hourGoes_1 : decode cX12_hourGoes 1 = .ok (.istore_n 1, 1) := by decide +kernel
theorem dX12_hourGoes_2 : decode cX12_hourGoes 2 = .ok (.iload_n 1, 1) := by decide +kernel
theorem dX12_hourGoes_3 : decode cX12_hourGoes 3 = .ok (.aload_n 0, 1) := by decide +kernel
theorem dX12_hourGoes_4 : decode cX12_hourGoes 4 = .ok (.getfield 61, 3) := by decide +kernel
theorem dX12_hourGoes_7 : decode cX12_hourGoes 7 = .ok (.aload_n 0, 1) := by decide +kernel
theorem dX12_hourGoes_8 : decode cX12_hourGoes 8 = .ok (.getfield 251, 3) := by decide +kernel
theorem dX12_hourGoes_11 : decode cX12_hourGoes 11 = .ok (.iaload, 1) := by decide +kernel
theorem dX12_hourGoes_12 : decode cX12_hourGoes 12 = .ok (.if_icmp .ge 47, 3) := by decide +kernel
theorem dX12_hourGoes_15 : decode cX12_hourGoes 15 = .ok (.aload_n 0, 1) := by decide +kernel
theorem dX12_hourGoes_16 : decode cX12_hourGoes 16 = .ok (.getfield 131, 3) := by decide +kernel
theorem dX12_hourGoes_19 : decode cX12_hourGoes 19 = .ok (.iload_n 1, 1) := by decide +kernel
theorem dX12_hourGoes_20 : decode cX12_hourGoes 20 = .ok (.aload_n 0, 1) := by decide +kernel
theorem dX12_hourGoes_21 : decode cX12_hourGoes 21 = .ok (.getfield 128, 3) := by decide +kernel
theorem dX12_hourGoes_24 : decode cX12_hourGoes 24 = .ok (.bipush 12, 2) := by decide +kernel
theorem dX12_hourGoes_26 : decode cX12_hourGoes 26 = .ok (.iload_n 1, 1) := by decide +kernel
theorem dX12_hourGoes_27 : decode cX12_hourGoes 27 = .ok (.iadd, 1) := by decide +kernel
theorem dX12_hourGoes_28 : decode cX12_hourGoes 28 = .ok (.iaload, 1) := by decide +kernel
theorem dX12_hourGoes_29 : decode cX12_hourGoes 29 = .ok (.ifCond .ne 11, 3) := by decide +kernel
theorem dX12_hourGoes_32 : decode cX12_hourGoes 32 = .ok (.aload_n 0, 1) := by decide +kernel
theorem dX12_hourGoes_33 : decode cX12_hourGoes 33 = .ok (.iload_n 1, 1) := by decide +kernel
theorem dX12_hourGoes_34 : decode cX12_hourGoes 34 = .ok (.invokevirtual 376, 3) := by decide +kernel
theorem dX12_hourGoes_37 : decode cX12_hourGoes 37 = .ok (.goto 4, 3) := by decide +kernel
theorem dX12_hourGoes_40 : decode cX12_hourGoes 40 = .ok (.iconst 0, 1) := by decide +kernel
theorem dX12_hourGoes_41 : decode cX12_hourGoes 41 = .ok (.iastore, 1) := by decide +kernel
theorem dX12_hourGoes_42 : decode cX12_hourGoes 42 = .ok (.aload_n 0, 1) := by decide +kernel
theorem dX12_hourGoes_43 : decode cX12_hourGoes 43 = .ok (.getfield 134, 3) := by decide +kernel
theorem dX12_hourGoes_46 : decode cX12_hourGoes 46 = .ok (.iload_n 1, 1) := by decide +kernel
theorem dX12_hourGoes_47 : decode cX12_hourGoes 47 = .ok (.aload_n 0, 1) := by decide +kernel
theorem dX12_hourGoes_48 : decode cX12_hourGoes 48 = .ok (.iload_n 1, 1) := by decide +kernel
theorem dX12_hourGoes_49 : decode cX12_hourGoes 49 = .ok (.invokevirtual 379, 3) := by decide +kernel
theorem dX12_hourGoes_52 : decode cX12_hourGoes 52 = .ok (.bastore, 1) := by decide +kernel
theorem dX12_hourGoes_53 : decode cX12_hourGoes 53 = .ok (.iinc 1 1, 3) := by decide +kernel
theorem dX12_hourGoes_56 : decode cX12_hourGoes 56 = .ok (.goto (-54), 3) := by decide +kernel
theorem dX12_hourGoes_59 : decode cX12_hourGoes 59 = .ok (.aload_n 0, 1) := by decide +kernel
theorem dX12_hourGoes_60 : decode cX12_hourGoes 60 = .ok (.getfield 344, 3) := by decide +kernel
theorem dX12_hourGoes_63 : decode cX12_hourGoes 63 = .ok (.ifCond .ne 49, 3) := by decide +kernel
theorem dX12_hourGoes_66 : decode cX12_hourGoes 66 = .ok (.aload_n 0, 1) := by decide +kernel
theorem dX12_hourGoes_67 : decode cX12_hourGoes 67 = .ok (.getfield 46, 3) := by decide +kernel
theorem dX12_hourGoes_70 : decode cX12_hourGoes 70 = .ok (.aload_n 0, 1) := by decide +kernel
theorem dX12_hourGoes_71 : decode cX12_hourGoes 71 = .ok (.getfield 251, 3) := by decide +kernel
theorem dX12_hourGoes_74 : decode cX12_hourGoes 74 = .ok (.iaload, 1) := by decide +kernel
theorem dX12_hourGoes_75 : decode cX12_hourGoes 75 = .ok (.ifCond .le 37, 3) := by decide +kernel
theorem dX12_hourGoes_78 : decode cX12_hourGoes 78 = .ok (.aload_n 0, 1) := by decide +kernel
theorem dX12_hourGoes_79 : decode cX12_hourGoes 79 = .ok (.invokevirtual 382, 3) := by decide +kernel
theorem dX12_hourGoes_82 : decode cX12_hourGoes 82 = .ok (.ifCond .eq 30, 3) := by decide +kernel
theorem dX12_hourGoes_85 : decode cX12_hourGoes 85 = .ok (.aload_n 0, 1) := by decide +kernel
theorem dX12_hourGoes_86 : decode cX12_hourGoes 86 = .ok (.iconst 4, 1) := by decide +kernel
theorem dX12_hourGoes_87 : decode cX12_hourGoes 87 = .ok (.aload_n 0, 1) := by decide +kernel
theorem dX12_hourGoes_88 : decode cX12_hourGoes 88 = .ok (.getfield 128, 3) := by decide +kernel
theorem dX12_hourGoes_91 : decode cX12_hourGoes 91 = .ok (.bipush 47, 2) := by decide +kernel
theorem dX12_hourGoes_93 : decode cX12_hourGoes 93 = .ok (.iaload, 1) := by decide +kernel
theorem dX12_hourGoes_94 : decode cX12_hourGoes 94 = .ok (.imul, 1) := by decide +kernel
theorem dX12_hourGoes_95 : decode cX12_hourGoes 95 = .ok (.iconst 1, 1) := by decide +kernel
theorem dX12_hourGoes_96 : decode cX12_hourGoes 96 = .ok (.iadd, 1) := by decide +kernel
theorem dX12_hourGoes_97 : decode cX12_hourGoes 97 = .ok (.aload_n 0, 1) := by decide +kernel
theorem dX12_hourGoes_98 : decode cX12_hourGoes 98 = .ok (.getfield 46, 3) := by decide +kernel
theorem dX12_hourGoes_101 : decode cX12_hourGoes 101 = .ok (.aload_n 0, 1) := by decide +kernel
theorem dX12_hourGoes_102 : decode cX12_hourGoes 102 = .ok (.getfield 251, 3) := by decide +kernel
theorem dX12_hourGoes_105 : decode cX12_hourGoes 105 = .ok (.iaload, 1) := by decide +kernel
theorem dX12_hourGoes_106 : decode cX12_hourGoes 106 = .ok (.invokevirtual 354, 3) := by decide +kernel
theorem dX12_hourGoes_109 : decode cX12_hourGoes 109 = .ok (.goto 4, 3) := by decide +kernel
theorem dX12_hourGoes_112 : decode cX12_hourGoes 112 = .ok (.iconst (-1), 1) := by decide +kernel
theorem dX12_hourGoes_113 : decode cX12_hourGoes 113 = .ok (.istore_n 1, 1) := by decide +kernel
theorem dX12_hourGoes_114 : decode cX12_hourGoes 114 = .ok (.iconst 0, 1) := by decide +kernel
theorem dX12_hourGoes_115 : decode cX12_hourGoes 115 = .ok (.istore_n 2, 1) := by decide +kernel
theorem dX12_hourGoes_116 : decode cX12_hourGoes 116 = .ok (.iload_n 2, 1) := by decide +kernel
theorem dX12_hourGoes_117 : decode cX12_hourGoes 117 = .ok (.aload_n 0, 1) := by decide +kernel
theorem dX12_hourGoes_118 : decode cX12_hourGoes 118 = .ok (.getfield 61, 3) := by decide +kernel
theorem dX12_hourGoes_121 : decode cX12_hourGoes 121 = .ok (.aload_n 0, 1) := by decide +kernel
theorem dX12_hourGoes_122 : decode cX12_hourGoes 122 = .ok (.getfield 251, 3) := by decide +kernel
theorem dX12_hourGoes_125 : decode cX12_hourGoes 125 = .ok (.iaload, 1) := by decide +kernel
theorem dX12_hourGoes_126 : decode cX12_hourGoes 126 = .ok (.if_icmp .ge 96, 3) := by decide +kernel
theorem dX12_hourGoes_129 : decode cX12_hourGoes 129 = .ok (.aload_n 0, 1) := by decide +kernel
theorem dX12_hourGoes_130 : decode cX12_hourGoes 130 = .ok (.getfield 128, 3) := by decide +kernel
theorem dX12_hourGoes_133 : decode cX12_hourGoes 133 = .ok (.bipush 6, 2) := by decide +kernel
theorem dX12_hourGoes_135 : decode cX12_hourGoes 135 = .ok (.iload_n 2, 1) := by decide +kernel
theorem dX12_hourGoes_136 : decode cX12_hourGoes 136 = .ok (.iadd, 1) := by decide +kernel
theorem dX12_hourGoes_137 : decode cX12_hourGoes 137 = .ok (.aload_n 0, 1) := by decide +kernel
theorem dX12_hourGoes_138 : decode cX12_hourGoes 138 = .ok (.getfield 128, 3) := by decide +kernel
theorem dX12_hourGoes_141 : decode cX12_hourGoes 141 = .ok (.bipush 6, 2) := by decide +kernel
theorem dX12_hourGoes_143 : decode cX12_hourGoes 143 = .ok (.iload_n 2, 1) := by decide +kernel
theorem dX12_hourGoes_144 : decode cX12_hourGoes 144 = .ok (.iadd, 1) := by decide +kernel
theorem dX12_hourGoes_145 : decode cX12_hourGoes 145 = .ok (.iaload, 1) := by decide +kernel
theorem dX12_hourGoes_146 : decode cX12_hourGoes 146 = .ok (.aload_n 0, 1) := by decide +kernel
theorem dX12_hourGoes_147 : decode cX12_hourGoes 147 = .ok (.getfield 131, 3) := by decide +kernel
theorem dX12_hourGoes_150 : decode cX12_hourGoes 150 = .ok (.iload_n 2, 1) := by decide +kernel
theorem dX12_hourGoes_151 : decode cX12_hourGoes 151 = .ok (.iaload, 1) := by decide +kernel
theorem dX12_hourGoes_152 : decode cX12_hourGoes 152 = .ok (.isub, 1) := by decide +kernel
theorem dX12_hourGoes_153 : decode cX12_hourGoes 153 = .ok (.iconst 0, 1) := by decide +kernel
theorem dX12_hourGoes_154 : decode cX12_hourGoes 154 = .ok (.sipush 999, 3) := by decide +kernel
theorem dX12_hourGoes_157 : decode cX12_hourGoes 157 = .ok (.invokestatic 367, 3) := by decide +kernel
theorem dX12_hourGoes_160 : decode cX12_hourGoes 160 = .ok (.iastore, 1) := by decide +kernel
theorem dX12_hourGoes_161 : decode cX12_hourGoes 161 = .ok (.aload_n 0, 1) := by decide +kernel
theorem dX12_hourGoes_162 : decode cX12_hourGoes 162 = .ok (.getfield 128, 3) := by decide +kernel
theorem dX12_hourGoes_165 : decode cX12_hourGoes 165 = .ok (.iload_n 2, 1) := by decide +kernel
theorem dX12_hourGoes_166 : decode cX12_hourGoes 166 = .ok (.iaload, 1) := by decide +kernel
theorem dX12_hourGoes_167 : decode cX12_hourGoes 167 = .ok (.iload_n 1, 1) := by decide +kernel
theorem dX12_hourGoes_168 : decode cX12_hourGoes 168 = .ok (.if_icmp .ne 16, 3) := by decide +kernel
theorem dX12_hourGoes_171 : decode cX12_hourGoes 171 = .ok (.aload_n 0, 1) := by decide +kernel
theorem dX12_hourGoes_172 : decode cX12_hourGoes 172 = .ok (.getfield 128, 3) := by decide +kernel
theorem dX12_hourGoes_175 : decode cX12_hourGoes 175 = .ok (.bipush 6, 2) := by decide +kernel
theorem dX12_hourGoes_177 : decode cX12_hourGoes 177 = .ok (.iload_n 2, 1) := by decide +kernel
theorem dX12_hourGoes_178 : decode cX12_hourGoes 178 = .ok (.iadd, 1) := by decide +kernel
theorem dX12_hourGoes_179 : decode cX12_hourGoes 179 = .ok (.dup2, 1) := by decide +kernel
theorem dX12_hourGoes_180 : decode cX12_hourGoes 180 = .ok (.iaload, 1) := by decide +kernel
theorem dX12_hourGoes_181 : decode cX12_hourGoes 181 = .ok (.iconst 2, 1) := by decide +kernel
theorem dX12_hourGoes_182 : decode cX12_hourGoes 182 = .ok (.idiv, 1) := by decide +kernel
theorem dX12_hourGoes_183 : decode cX12_hourGoes 183 = .ok (.iastore, 1) := by decide +kernel
theorem dX12_hourGoes_184 : decode cX12_hourGoes 184 = .ok (.aload_n 0, 1) := by decide +kernel
theorem dX12_hourGoes_185 : decode cX12_hourGoes 185 = .ok (.getfield 134, 3) := by decide +kernel
theorem dX12_hourGoes_188 : decode cX12_hourGoes 188 = .ok (.iload_n 2, 1) := by decide +kernel
theorem dX12_hourGoes_189 : decode cX12_hourGoes 189 = .ok (.baload, 1) := by decide +kernel
theorem dX12_hourGoes_190 : decode cX12_hourGoes 190 = .ok (.ifCond .ne 6, 3) := by decide +kernel
theorem dX12_hourGoes_193 : decode cX12_hourGoes 193 = .ok (.goto 23, 3) := by decide +kernel
theorem dX12_hourGoes_196 : decode cX12_hourGoes 196 = .ok (.aload_n 0, 1) := by decide +kernel
theorem dX12_hourGoes_197 : decode cX12_hourGoes 197 = .ok (.getfield 128, 3) := by decide +kernel
theorem dX12_hourGoes_200 : decode cX12_hourGoes 200 = .ok (.bipush 12, 2) := by decide +kernel
theorem dX12_hourGoes_202 : decode cX12_hourGoes 202 = .ok (.iload_n 2, 1) := by decide +kernel
theorem dX12_hourGoes_203 : decode cX12_hourGoes 203 = .ok (.iadd, 1) := by decide +kernel
theorem dX12_hourGoes_204 : decode cX12_hourGoes 204 = .ok (.iconst 1, 1) := by decide +kernel
theorem dX12_hourGoes_205 : decode cX12_hourGoes 205 = .ok (.iastore, 1) := by decide +kernel
theorem dX12_hourGoes_206 : decode cX12_hourGoes 206 = .ok (.aload_n 0, 1) := by decide +kernel
theorem dX12_hourGoes_207 : decode cX12_hourGoes 207 = .ok (.getfield 128, 3) := by decide +kernel
theorem dX12_hourGoes_210 : decode cX12_hourGoes 210 = .ok (.bipush 6, 2) := by decide +kernel
theorem dX12_hourGoes_212 : decode cX12_hourGoes 212 = .ok (.iload_n 2, 1) := by decide +kernel
theorem dX12_hourGoes_213 : decode cX12_hourGoes 213 = .ok (.iadd, 1) := by decide +kernel
theorem dX12_hourGoes_214 : decode cX12_hourGoes 214 = .ok (.iconst 0, 1) := by decide +kernel
theorem dX12_hourGoes_215 : decode cX12_hourGoes 215 = .ok (.iastore, 1) := by decide +kernel
theorem dX12_hourGoes_216 : decode cX12_hourGoes 216 = .ok (.iinc 2 1, 3) := by decide +kernel
theorem dX12_hourGoes_219 : decode cX12_hourGoes 219 = .ok (.goto (-103), 3) := by decide +kernel
theorem dX12_hourGoes_222 : decode cX12_hourGoes 222 = .ok (.aload_n 0, 1) := by decide +kernel
theorem dX12_hourGoes_223 : decode cX12_hourGoes 223 = .ok (.getfield 128, 3) := by decide +kernel
theorem dX12_hourGoes_226 : decode cX12_hourGoes 226 = .ok (.bipush 47, 2) := by decide +kernel
theorem dX12_hourGoes_228 : decode cX12_hourGoes 228 = .ok (.dup2, 1) := by decide +kernel
theorem dX12_hourGoes_229 : decode cX12_hourGoes 229 = .ok (.iaload, 1) := by decide +kernel
theorem dX12_hourGoes_230 : decode cX12_hourGoes 230 = .ok (.iconst 1, 1) := by decide +kernel
theorem dX12_hourGoes_231 : decode cX12_hourGoes 231 = .ok (.iadd, 1) := by decide +kernel
theorem dX12_hourGoes_232 : decode cX12_hourGoes 232 = .ok (.iastore, 1) := by decide +kernel
theorem dX12_hourGoes_233 : decode cX12_hourGoes 233 = .ok (.return_, 1) := by decide +kernel
theorem dX12_goes_0 : decode cX12_goes 0 = .ok (.iconst 0, 1) := by decide +kernel
theorem dX12_goes_1 : decode cX12_goes 1 = .ok (.istore_n 2, 1) := by decide +kernel
theorem dX12_goes_2 : decode cX12_goes 2 = .ok (.iload_n 2, 1) := by decide +kernel
theorem dX12_goes_3 : decode cX12_goes 3 = .ok (.iload_n 1, 1) := by decide +kernel
theorem dX12_goes_4 : decode cX12_goes 4 = .ok (.if_icmp .ge 13, 3) := by decide +kernel
theorem dX12_goes_7 : decode cX12_goes 7 = .ok (.aload_n 0, 1) := by decide +kernel
theorem dX12_goes_8 : decode cX12_goes 8 = .ok (.invokevirtual 386, 3) := by decide +kernel
theorem dX12_goes_11 : decode cX12_goes 11 = .ok (.iinc 2 1, 3) := by decide +kernel
theorem dX12_goes_14 : decode cX12_goes 14 = .ok (.goto (-12), 3) := by decide +kernel
theorem dX12_goes_17 : decode cX12_goes 17 = .ok (.return_, 1) := by decide +kernel
theorem dX12_lightAt_0 : decode cX12_lightAt 0 = .ok (.iconst 0, 1) := by decide +kernel
theorem dX12_lightAt_1 : decode cX12_lightAt 1 = .ok (.istore_n 2, 1) := by decide +kernel
theorem dX12_lightAt_2 : decode cX12_lightAt 2 = .ok (.iconst 0, 1) := by decide +kernel
theorem dX12_lightAt_3 : decode cX12_lightAt 3 = .ok (.istore_n 3, 1) := by decide +kernel
theorem dX12_lightAt_4 : decode cX12_lightAt 4 = .ok (.iload_n 3, 1) := by decide +kernel
theorem dX12_lightAt_5 : decode cX12_lightAt 5 = .ok (.aload_n 0, 1) := by decide +kernel
theorem dX12_lightAt_6 : decode cX12_lightAt 6 = .ok (.getfield 61, 3) := by decide +kernel
theorem dX12_lightAt_9 : decode cX12_lightAt 9 = .ok (.aload_n 0, 1) := by decide +kernel
theorem dX12_lightAt_10 : decode cX12_lightAt 10 = .ok (.getfield 251, 3) := by decide +kernel
theorem dX12_lightAt_13 : decode cX12_lightAt 13 = .ok (.iaload, 1) := by decide +kernel
theorem dX12_lightAt_14 : decode cX12_lightAt 14 = .ok (.if_icmp .ge 31, 3) := by decide +kernel
theorem dX12_lightAt_17 : decode cX12_lightAt 17 = .ok (.aload_n 0, 1) := by decide +kernel
theorem dX12_lightAt_18 : decode cX12_lightAt 18 = .ok (.getfield 128, 3) := by decide +kernel
theorem dX12_lightAt_21 : decode cX12_lightAt 21 = .ok (.iload_n 3, 1) := by decide +kernel
theorem dX12_lightAt_22 : decode cX12_lightAt 22 = .ok (.iaload, 1) := by decide +kernel
theorem dX12_lightAt_23 : decode cX12_lightAt 23 = .ok (.iload_n 1, 1) := by decide +kernel
theorem dX12_lightAt_24 : decode cX12_lightAt 24 = .ok (.if_icmp .ne 15, 3) := by decide +kernel
theorem dX12_lightAt_27 : decode cX12_lightAt 27 = .ok (.iload_n 2, 1) := by decide +kernel
theorem dX12_lightAt_28 : decode cX12_lightAt 28 = .ok (.aload_n 0, 1) := by decide +kernel
theorem dX12_lightAt_29 : decode cX12_lightAt 29 = .ok (.getfield 128, 3) := by decide +kernel
theorem dX12_lightAt_32 : decode cX12_lightAt 32 = .ok (.bipush 6, 2) := by decide +kernel
theorem dX12_lightAt_34 : decode cX12_lightAt 34 = .ok (.iload_n 3, 1) := by decide +kernel
theorem dX12_lightAt_35 : decode cX12_lightAt 35 = .ok (.iadd, 1) := by decide +kernel
theorem dX12_lightAt_36 : decode cX12_lightAt 36 = .ok (.iaload, 1) := by decide +kernel
theorem dX12_lightAt_37 : decode cX12_lightAt 37 = .ok (.iadd, 1) := by decide +kernel
theorem dX12_lightAt_38 : decode cX12_lightAt 38 = .ok (.istore_n 2, 1) := by decide +kernel
theorem dX12_lightAt_39 : decode cX12_lightAt 39 = .ok (.iinc 3 1, 3) := by decide +kernel
theorem dX12_lightAt_42 : decode cX12_lightAt 42 = .ok (.goto (-38), 3) := by decide +kernel
theorem dX12_lightAt_45 : decode cX12_lightAt 45 = .ok (.iload_n 2, 1) := by decide +kernel
theorem dX12_lightAt_46 : decode cX12_lightAt 46 = .ok (.ireturn, 1) := by decide +kernel
theorem dX12_needsOf_0 : decode cX12_needsOf 0 = .ok (.bipush 10, 2) := by decide +kernel
theorem dX12_needsOf_2 : decode cX12_needsOf 2 = .ok (.aload_n 0, 1) := by decide +kernel
theorem dX12_needsOf_3 : decode cX12_needsOf 3 = .ok (.getfield 251, 3) := by decide +kernel
theorem dX12_needsOf_6 : decode cX12_needsOf 6 = .ok (.imul, 1) := by decide +kernel
theorem dX12_needsOf_7 : decode cX12_needsOf 7 = .ok (.iload_n 1, 1) := by decide +kernel
theorem dX12_needsOf_8 : decode cX12_needsOf 8 = .ok (.iadd, 1) := by decide +kernel
theorem dX12_needsOf_9 : decode cX12_needsOf 9 = .ok (.istore_n 2, 1) := by decide +kernel
theorem dX12_needsOf_10 : decode cX12_needsOf 10 = .ok (.aload_n 0, 1) := by decide +kernel
theorem dX12_needsOf_11 : decode cX12_needsOf 11 = .ok (.getfield 58, 3) := by decide +kernel
theorem dX12_needsOf_14 : decode cX12_needsOf 14 = .ok (.iload_n 2, 1) := by decide +kernel
theorem dX12_needsOf_15 : decode cX12_needsOf 15 = .ok (.iaload, 1) := by decide +kernel
theorem dX12_needsOf_16 : decode cX12_needsOf 16 = .ok (.aload_n 0, 1) := by decide +kernel
theorem dX12_needsOf_17 : decode cX12_needsOf 17 = .ok (.aload_n 0, 1) := by decide +kernel
theorem dX12_needsOf_18 : decode cX12_needsOf 18 = .ok (.getfield 52, 3) := by decide +kernel
theorem dX12_needsOf_21 : decode cX12_needsOf 21 = .ok (.iload_n 2, 1) := by decide +kernel
theorem dX12_needsOf_22 : decode cX12_needsOf 22 = .ok (.iaload, 1) := by decide +kernel
theorem dX12_needsOf_23 : decode cX12_needsOf 23 = .ok (.invokevirtual 389, 3) := by decide +kernel
theorem dX12_needsOf_26 : decode cX12_needsOf 26 = .ok (.isub, 1) := by decide +kernel
theorem dX12_needsOf_27 : decode cX12_needsOf 27 = .ok (.aload_n 0, 1) := by decide +kernel
theorem dX12_needsOf_28 : decode cX12_needsOf 28 = .ok (.aload_n 0, 1) := by decide +kernel
theorem dX12_needsOf_29 : decode cX12_needsOf 29 = .ok (.getfield 55, 3) := by decide +kernel
theorem dX12_needsOf_32 : decode cX12_needsOf 32 = .ok (.iload_n 2, 1) := by decide +kernel
theorem dX12_needsOf_33 : decode cX12_needsOf 33 = .ok (.iaload, 1) := by decide +kernel
theorem dX12_needsOf_34 : decode cX12_needsOf 34 = .ok (.invokevirtual 389, 3) := by decide +kernel
theorem dX12_needsOf_37 : decode cX12_needsOf 37 = .ok (.isub, 1) := by decide +kernel
theorem dX12_needsOf_38 : decode cX12_needsOf 38 = .ok (.istore_n 3, 1) := by decide +kernel
theorem dX12_needsOf_39 : decode cX12_needsOf 39 = .ok (.iload_n 3, 1) := by decide +kernel
theorem dX12_needsOf_40 : decode cX12_needsOf 40 = .ok (.ifCond .ge 7, 3) := by decide +kernel
theorem dX12_needsOf_43 : decode cX12_needsOf 43 = .ok (.iconst 0, 1) := by decide +kernel
theorem dX12_needsOf_44 : decode cX12_needsOf 44 = .ok (.goto 4, 3) := by decide +kernel
theorem dX12_needsOf_47 : decode cX12_needsOf 47 = .ok (.iload_n 3, 1) := by decide +kernel
theorem dX12_needsOf_48 : decode cX12_needsOf 48 = .ok (.ireturn, 1) := by decide +kernel
theorem dX12_litBits_0 : decode cX12_litBits 0 = .ok (.iconst 0, 1) := by decide +kernel
theorem dX12_litBits_1 : decode cX12_litBits 1 = .ok (.istore_n 1, 1) := by decide +kernel
theorem dX12_litBits_2 : decode cX12_litBits 2 = .ok (.iload_n 1, 1) := by decide +kernel
theorem dX12_litBits_3 : decode cX12_litBits 3 = .ok (.aload_n 0, 1) := by decide +kernel
theorem dX12_litBits_4 : decode cX12_litBits 4 = .ok (.getfield 46, 3) := by decide +kernel
theorem dX12_litBits_7 : decode cX12_litBits 7 = .ok (.aload_n 0, 1) := by decide +kernel
theorem dX12_litBits_8 : decode cX12_litBits 8 = .ok (.getfield 251, 3) := by decide +kernel
theorem dX12_litBits_11 : decode cX12_litBits 11 = .ok (.iaload, 1) := by decide +kernel
theorem dX12_litBits_12 : decode cX12_litBits 12 = .ok (.if_icmp .ge 20, 3) := by decide +kernel
theorem dX12_litBits_15 : decode cX12_litBits 15 = .ok (.aload_n 0, 1) := by decide +kernel
theorem dX12_litBits_16 : decode cX12_litBits 16 = .ok (.getfield 137, 3) := by decide +kernel
theorem dX12_litBits_19 : decode cX12_litBits 19 = .ok (.iload_n 1, 1) := by decide +kernel
theorem dX12_litBits_20 : decode cX12_litBits 20 = .ok (.aload_n 0, 1) := by decide +kernel
theorem dX12_litBits_21 : decode cX12_litBits 21 = .ok (.iload_n 1, 1) := by decide +kernel
theorem dX12_litBits_22 : decode cX12_litBits 22 = .ok (.invokevirtual 389, 3) := by decide +kernel
theorem dX12_litBits_25 : decode cX12_litBits 25 = .ok (.iastore, 1) := by decide +kernel
theorem dX12_litBits_26 : decode cX12_litBits 26 = .ok (.iinc 1 1, 3) := by decide +kernel
theorem dX12_litBits_29 : decode cX12_litBits 29 = .ok (.goto (-27), 3) := by decide +kernel
theorem dX12_litBits_32 : decode cX12_litBits 32 = .ok (.iconst 0, 1) := by decide +kernel
theorem dX12_litBits_33 : decode cX12_litBits 33 = .ok (.istore_n 1, 1) := by decide +kernel
theorem dX12_litBits_34 : decode cX12_litBits 34 = .ok (.iconst 0, 1) := by decide +kernel
theorem dX12_litBits_35 : decode cX12_litBits 35 = .ok (.istore_n 2, 1) := by decide +kernel
theorem dX12_litBits_36 : decode cX12_litBits 36 = .ok (.iload_n 2, 1) := by decide +kernel
theorem dX12_litBits_37 : decode cX12_litBits 37 = .ok (.aload_n 0, 1) := by decide +kernel
theorem dX12_litBits_38 : decode cX12_litBits 38 = .ok (.getfield 49, 3) := by decide +kernel
theorem dX12_litBits_41 : decode cX12_litBits 41 = .ok (.aload_n 0, 1) := by decide +kernel
theorem dX12_litBits_42 : decode cX12_litBits 42 = .ok (.getfield 251, 3) := by decide +kernel
theorem dX12_litBits_45 : decode cX12_litBits 45 = .ok (.iaload, 1) := by decide +kernel
theorem dX12_litBits_46 : decode cX12_litBits 46 = .ok (.if_icmp .ge 71, 3) := by decide +kernel
theorem dX12_litBits_49 : decode cX12_litBits 49 = .ok (.aload_n 0, 1) := by decide +kernel
theorem dX12_litBits_50 : decode cX12_litBits 50 = .ok (.getfield 137, 3) := by decide +kernel
theorem dX12_litBits_53 : decode cX12_litBits 53 = .ok (.aload_n 0, 1) := by decide +kernel
theorem dX12_litBits_54 : decode cX12_litBits 54 = .ok (.getfield 52, 3) := by decide +kernel
theorem dX12_litBits_57 : decode cX12_litBits 57 = .ok (.bipush 10, 2) := by decide +kernel
theorem dX12_litBits_59 : decode cX12_litBits 59 = .ok (.aload_n 0, 1) := by decide +kernel
theorem dX12_litBits_60 : decode cX12_litBits 60 = .ok (.getfield 251, 3) := by decide +kernel
theorem dX12_litBits_63 : decode cX12_litBits 63 = .ok (.imul, 1) := by decide +kernel
theorem dX12_litBits_64 : decode cX12_litBits 64 = .ok (.iload_n 2, 1) := by decide +kernel
theorem dX12_litBits_65 : decode cX12_litBits 65 = .ok (.iadd, 1) := by decide +kernel
theorem dX12_litBits_66 : decode cX12_litBits 66 = .ok (.iaload, 1) := by decide +kernel
theorem dX12_litBits_67 : decode cX12_litBits 67 = .ok (.iaload, 1) := by decide +kernel
theorem dX12_litBits_68 : decode cX12_litBits 68 = .ok (.aload_n 0, 1) := by decide +kernel
theorem dX12_litBits_69 : decode cX12_litBits 69 = .ok (.getfield 137, 3) := by decide +kernel
theorem dX12_litBits_72 : decode cX12_litBits 72 = .ok (.aload_n 0, 1) := by decide +kernel
theorem dX12_litBits_73 : decode cX12_litBits 73 = .ok (.getfield 55, 3) := by decide +kernel
theorem dX12_litBits_76 : decode cX12_litBits 76 = .ok (.bipush 10, 2) := by decide +kernel
theorem dX12_litBits_78 : decode cX12_litBits 78 = .ok (.aload_n 0, 1) := by decide +kernel
theorem dX12_litBits_79 : decode cX12_litBits 79 = .ok (.getfield 251, 3) := by decide +kernel
theorem dX12_litBits_82 : decode cX12_litBits 82 = .ok (.imul, 1) := by decide +kernel
theorem dX12_litBits_83 : decode cX12_litBits 83 = .ok (.iload_n 2, 1) := by decide +kernel
theorem dX12_litBits_84 : decode cX12_litBits 84 = .ok (.iadd, 1) := by decide +kernel
theorem dX12_litBits_85 : decode cX12_litBits 85 = .ok (.iaload, 1) := by decide +kernel
theorem dX12_litBits_86 : decode cX12_litBits 86 = .ok (.iaload, 1) := by decide +kernel
theorem dX12_litBits_87 : decode cX12_litBits 87 = .ok (.iadd, 1) := by decide +kernel
theorem dX12_litBits_88 : decode cX12_litBits 88 = .ok (.aload_n 0, 1) := by decide +kernel
theorem dX12_litBits_89 : decode cX12_litBits 89 = .ok (.getfield 58, 3) := by decide +kernel
theorem dX12_litBits_92 : decode cX12_litBits 92 = .ok (.bipush 10, 2) := by decide +kernel
theorem dX12_litBits_94 : decode cX12_litBits 94 = .ok (.aload_n 0, 1) := by decide +kernel
theorem dX12_litBits_95 : decode cX12_litBits 95 = .ok (.getfield 251, 3) := by decide +kernel
theorem dX12_litBits_98 : decode cX12_litBits 98 = .ok (.imul, 1) := by decide +kernel
theorem dX12_litBits_99 : decode cX12_litBits 99 = .ok (.iload_n 2, 1) := by decide +kernel
theorem dX12_litBits_100 : decode cX12_litBits 100 = .ok (.iadd, 1) := by decide +kernel
theorem dX12_litBits_101 : decode cX12_litBits 101 = .ok (.iaload, 1) := by decide +kernel
theorem dX12_litBits_102 : decode cX12_litBits 102 = .ok (.if_icmp .lt 9, 3) := by decide +kernel
theorem dX12_litBits_105 : decode cX12_litBits 105 = .ok (.iload_n 1, 1) := by decide +kernel
theorem dX12_litBits_106 : decode cX12_litBits 106 = .ok (.iconst 1, 1) := by decide +kernel
theorem dX12_litBits_107 : decode cX12_litBits 107 = .ok (.iload_n 2, 1) := by decide +kernel
theorem dX12_litBits_108 : decode cX12_litBits 108 = .ok (.ishl, 1) := by decide +kernel
theorem dX12_litBits_109 : decode cX12_litBits 109 = .ok (.ior, 1) := by decide +kernel
theorem dX12_litBits_110 : decode cX12_litBits 110 = .ok (.istore_n 1, 1) := by decide +kernel
theorem dX12_litBits_111 : decode cX12_litBits 111 = .ok (.iinc 2 1, 3) := by decide +kernel
theorem dX12_litBits_114 : decode cX12_litBits 114 = .ok (.goto (-78), 3) := by decide +kernel
theorem dX12_litBits_117 : decode cX12_litBits 117 = .ok (.iload_n 1, 1) := by decide +kernel
theorem dX12_litBits_118 : decode cX12_litBits 118 = .ok (.ireturn, 1) := by decide +kernel
theorem dX12_corner_0 : decode cX12_corner 0 = .ok (.aload_n 0, 1) := by decide +kernel
theorem dX12_corner_1 : decode cX12_corner 1 = .ok (.iload_n 1, 1) := by decide +kernel
theorem dX12_corner_2 : decode cX12_corner 2 = .ok (.invokevirtual 392, 3) := by decide +kernel
theorem dX12_corner_5 : decode cX12_corner 5 = .ok (.ifCond .ne 5, 3) := by decide +kernel
theorem dX12_corner_8 : decode cX12_corner 8 = .ok (.iconst (-1), 1) := by decide +kernel
theorem dX12_corner_9 : decode cX12_corner 9 = .ok (.ireturn, 1) := by decide +kernel
theorem dX12_corner_10 : decode cX12_corner 10 = .ok (.aload_n 0, 1) := by decide +kernel
theorem dX12_corner_11 : decode cX12_corner 11 = .ok (.invokevirtual 347, 3) := by decide +kernel
theorem dX12_corner_14 : decode cX12_corner 14 = .ok (.iload_n 2, 1) := by decide +kernel
theorem dX12_corner_15 : decode cX12_corner 15 = .ok (.tableswitch 64 0 3 #[29, 35, 41, 58], 29) := by decide +kernel
theorem dX12_corner_44 : decode cX12_corner 44 = .ok (.aload_n 0, 1) := by decide +kernel
theorem dX12_corner_45 : decode cX12_corner 45 = .ok (.iload_n 1, 1) := by decide +kernel
theorem dX12_corner_46 : decode cX12_corner 46 = .ok (.invokevirtual 389, 3) := by decide +kernel
theorem dX12_corner_49 : decode cX12_corner 49 = .ok (.ireturn, 1) := by decide +kernel
theorem dX12_corner_50 : decode cX12_corner 50 = .ok (.aload_n 0, 1) := by decide +kernel
theorem dX12_corner_51 : decode cX12_corner 51 = .ok (.iload_n 1, 1) := by decide +kernel
theorem dX12_corner_52 : decode cX12_corner 52 = .ok (.invokevirtual 395, 3) := by decide +kernel
theorem dX12_corner_55 : decode cX12_corner 55 = .ok (.ireturn, 1) := by decide +kernel
theorem dX12_corner_56 : decode cX12_corner 56 = .ok (.aload_n 0, 1) := by decide +kernel
theorem dX12_corner_57 : decode cX12_corner 57 = .ok (.getfield 128, 3) := by decide +kernel
theorem dX12_corner_60 : decode cX12_corner 60 = .ok (.bipush 46, 2) := by decide +kernel
theorem dX12_corner_62 : decode cX12_corner 62 = .ok (.iaload, 1) := by decide +kernel
theorem dX12_corner_63 : decode cX12_corner 63 = .ok (.iload_n 1, 1) := by decide +kernel
theorem dX12_corner_64 : decode cX12_corner 64 = .ok (.if_icmp .ne 7, 3) := by decide +kernel
theorem dX12_corner_67 : decode cX12_corner 67 = .ok (.iconst 1, 1) := by decide +kernel
theorem dX12_corner_68 : decode cX12_corner 68 = .ok (.goto 4, 3) := by decide +kernel
theorem dX12_corner_71 : decode cX12_corner 71 = .ok (.iconst 0, 1) := by decide +kernel
theorem dX12_corner_72 : decode cX12_corner 72 = .ok (.ireturn, 1) := by decide +kernel
theorem dX12_corner_73 : decode cX12_corner 73 = .ok (.aload_n 0, 1) := by decide +kernel
theorem dX12_corner_74 : decode cX12_corner 74 = .ok (.iload_n 1, 1) := by decide +kernel
theorem dX12_corner_75 : decode cX12_corner 75 = .ok (.invokevirtual 398, 3) := by decide +kernel
theorem dX12_corner_78 : decode cX12_corner 78 = .ok (.ireturn, 1) := by decide +kernel
theorem dX12_corner_79 : decode cX12_corner 79 = .ok (.iconst (-1), 1) := by decide +kernel
theorem dX12_corner_80 : decode cX12_corner 80 = .ok (.ireturn, 1) := by decide +kernel
theorem dX12_outAt_0 : decode cX12_outAt 0 = .ok (.iconst 0, 1) := by decide +kernel
theorem dX12_outAt_1 : decode cX12_outAt 1 = .ok (.istore_n 2, 1) := by decide +kernel
theorem dX12_outAt_2 : decode cX12_outAt 2 = .ok (.iconst 0, 1) := by decide +kernel
theorem dX12_outAt_3 : decode cX12_outAt 3 = .ok (.istore_n 3, 1) := by decide +kernel
theorem dX12_outAt_4 : decode cX12_outAt 4 = .ok (.iload_n 3, 1) := by decide +kernel
theorem dX12_outAt_5 : decode cX12_outAt 5 = .ok (.aload_n 0, 1) := by decide +kernel
theorem dX12_outAt_6 : decode cX12_outAt 6 = .ok (.getfield 61, 3) := by decide +kernel
theorem dX12_outAt_9 : decode cX12_outAt 9 = .ok (.aload_n 0, 1) := by decide +kernel
theorem dX12_outAt_10 : decode cX12_outAt 10 = .ok (.getfield 251, 3) := by decide +kernel
theorem dX12_outAt_13 : decode cX12_outAt 13 = .ok (.iaload, 1) := by decide +kernel
theorem dX12_outAt_14 : decode cX12_outAt 14 = .ok (.if_icmp .ge 37, 3) := by decide +kernel
theorem dX12_outAt_17 : decode cX12_outAt 17 = .ok (.aload_n 0, 1) := by decide +kernel
theorem dX12_outAt_18 : decode cX12_outAt 18 = .ok (.getfield 128, 3) := by decide +kernel
theorem dX12_outAt_21 : decode cX12_outAt 21 = .ok (.bipush 12, 2) := by decide +kernel
theorem dX12_outAt_23 : decode cX12_outAt 23 = .ok (.iload_n 3, 1) := by decide +kernel
theorem dX12_outAt_24 : decode cX12_outAt 24 = .ok (.iadd, 1) := by decide +kernel
theorem dX12_outAt_25 : decode cX12_outAt 25 = .ok (.iaload, 1) := by decide +kernel
theorem dX12_outAt_26 : decode cX12_outAt 26 = .ok (.ifCond .ne 19, 3) := by decide +kernel
theorem dX12_outAt_29 : decode cX12_outAt 29 = .ok (.aload_n 0, 1) := by decide +kernel
theorem dX12_outAt_30 : decode cX12_outAt 30 = .ok (.getfield 128, 3) := by decide +kernel
theorem dX12_outAt_33 : decode cX12_outAt 33 = .ok (.iload_n 3, 1) := by decide +kernel
theorem dX12_outAt_34 : decode cX12_outAt 34 = .ok (.iaload, 1) := by decide +kernel
theorem dX12_outAt_35 : decode cX12_outAt 35 = .ok (.iload_n 1, 1) := by decide +kernel
theorem dX12_outAt_36 : decode cX12_outAt 36 = .ok (.if_icmp .ne 9, 3) := by decide +kernel
theorem dX12_outAt_39 : decode cX12_outAt 39 = .ok (.iload_n 2, 1) := by decide +kernel
theorem dX12_outAt_40 : decode cX12_outAt 40 = .ok (.iconst 1, 1) := by decide +kernel
theorem dX12_outAt_41 : decode cX12_outAt 41 = .ok (.iload_n 3, 1) := by decide +kernel
theorem dX12_outAt_42 : decode cX12_outAt 42 = .ok (.ishl, 1) := by decide +kernel
theorem dX12_outAt_43 : decode cX12_outAt 43 = .ok (.ior, 1) := by decide +kernel
theorem dX12_outAt_44 : decode cX12_outAt 44 = .ok (.istore_n 2, 1) := by decide +kernel
theorem dX12_outAt_45 : decode cX12_outAt 45 = .ok (.iinc 3 1, 3) := by decide +kernel
theorem dX12_outAt_48 : decode cX12_outAt 48 = .ok (.goto (-44), 3) := by decide +kernel
theorem dX12_outAt_51 : decode cX12_outAt 51 = .ok (.iload_n 2, 1) := by decide +kernel
theorem dX12_outAt_52 : decode cX12_outAt 52 = .ok (.ireturn, 1) := by decide +kernel
theorem dX12_isEnd_0 : decode cX12_isEnd 0 = .ok (.aload_n 0, 1) := by decide +kernel
theorem dX12_isEnd_1 : decode cX12_isEnd 1 = .ok (.getfield 52, 3) := by decide +kernel
theorem dX12_isEnd_4 : decode cX12_isEnd 4 = .ok (.bipush 10, 2) := by decide +kernel
theorem dX12_isEnd_6 : decode cX12_isEnd 6 = .ok (.aload_n 0, 1) := by decide +kernel
theorem dX12_isEnd_7 : decode cX12_isEnd 7 = .ok (.getfield 251, 3) := by decide +kernel
theorem dX12_isEnd_10 : decode cX12_isEnd 10 = .ok (.imul, 1) := by decide +kernel
theorem dX12_isEnd_11 : decode cX12_isEnd 11 = .ok (.iload_n 1, 1) := by decide +kernel
theorem dX12_isEnd_12 : decode cX12_isEnd 12 = .ok (.iadd, 1) := by decide +kernel
theorem dX12_isEnd_13 : decode cX12_isEnd 13 = .ok (.iaload, 1) := by decide +kernel
theorem dX12_isEnd_14 : decode cX12_isEnd 14 = .ok (.iload_n 2, 1) := by decide +kernel
theorem dX12_isEnd_15 : decode cX12_isEnd 15 = .ok (.if_icmp .eq 21, 3) := by decide +kernel
theorem dX12_isEnd_18 : decode cX12_isEnd 18 = .ok (.aload_n 0, 1) := by decide +kernel
theorem dX12_isEnd_19 : decode cX12_isEnd 19 = .ok (.getfield 55, 3) := by decide +kernel
theorem dX12_isEnd_22 : decode cX12_isEnd 22 = .ok (.bipush 10, 2) := by decide +kernel
theorem dX12_isEnd_24 : decode cX12_isEnd 24 = .ok (.aload_n 0, 1) := by decide +kernel
theorem dX12_isEnd_25 : decode cX12_isEnd 25 = .ok (.getfield 251, 3) := by decide +kernel
theorem dX12_isEnd_28 : decode cX12_isEnd 28 = .ok (.imul, 1) := by decide +kernel
theorem dX12_isEnd_29 : decode cX12_isEnd 29 = .ok (.iload_n 1, 1) := by decide +kernel
theorem dX12_isEnd_30 : decode cX12_isEnd 30 = .ok (.iadd, 1) := by decide +kernel
theorem dX12_isEnd_31 : decode cX12_isEnd 31 = .ok (.iaload, 1) := by decide +kernel
theorem dX12_isEnd_32 : decode cX12_isEnd 32 = .ok (.iload_n 2, 1) := by decide +kernel
theorem dX12_isEnd_33 : decode cX12_isEnd 33 = .ok (.if_icmp .ne 7, 3) := by decide +kernel
theorem dX12_isEnd_36 : decode cX12_isEnd 36 = .ok (.iconst 1, 1) := by decide +kernel
theorem dX12_isEnd_37 : decode cX12_isEnd 37 = .ok (.goto 4, 3) := by decide +kernel
theorem dX12_isEnd_40 : decode cX12_isEnd 40 = .ok (.iconst 0, 1) := by decide +kernel
theorem dX12_isEnd_41 : decode cX12_isEnd 41 = .ok (.ireturn, 1) := by decide +kernel
theorem dX12_otherEnd_0 : decode cX12_otherEnd 0 = .ok (.aload_n 0, 1) := by decide +kernel
theorem dX12_otherEnd_1 : decode cX12_otherEnd 1 = .ok (.getfield 52, 3) := by decide +kernel
theorem dX12_otherEnd_4 : decode cX12_otherEnd 4 = .ok (.bipush 10, 2) := by decide +kernel
theorem dX12_otherEnd_6 : decode cX12_otherEnd 6 = .ok (.aload_n 0, 1) := by decide +kernel
theorem dX12_otherEnd_7 : decode cX12_otherEnd 7 = .ok (.getfield 251, 3) := by decide +kernel
theorem dX12_otherEnd_10 : decode cX12_otherEnd 10 = .ok (.imul, 1) := by decide +kernel
theorem dX12_otherEnd_11 : decode cX12_otherEnd 11 = .ok (.iload_n 1, 1) := by decide +kernel
theorem dX12_otherEnd_12 : decode cX12_otherEnd 12 = .ok (.iadd, 1) := by decide +kernel
theorem dX12_otherEnd_13 : decode cX12_otherEnd 13 = .ok (.iaload, 1) := by decide +kernel
theorem dX12_otherEnd_14 : decode cX12_otherEnd 14 = .ok (.aload_n 0, 1) := by decide +kernel
theorem dX12_otherEnd_15 : decode cX12_otherEnd 15 = .ok (.getfield 55, 3) := by decide +kernel
theorem dX12_otherEnd_18 : decode cX12_otherEnd 18 = .ok (.bipush 10, 2) := by decide +kernel
theorem dX12_otherEnd_20 : decode cX12_otherEnd 20 = .ok (.aload_n 0, 1) := by decide +kernel
theorem dX12_otherEnd_21 : decode cX12_otherEnd 21 = .ok (.getfield 251, 3) := by decide +kernel
theorem dX12_otherEnd_24 : decode cX12_otherEnd 24 = .ok (.imul, 1) := by decide +kernel
theorem dX12_otherEnd_25 : decode cX12_otherEnd 25 = .ok (.iload_n 1, 1) := by decide +kernel
theorem dX12_otherEnd_26 : decode cX12_otherEnd 26 = .ok (.iadd, 1) := by decide +kernel
theorem dX12_otherEnd_27 : decode cX12_otherEnd 27 = .ok (.iaload, 1) := by decide +kernel
theorem dX12_otherEnd_28 : decode cX12_otherEnd 28 = .ok (.iadd, 1) := by decide +kernel
theorem dX12_otherEnd_29 : decode cX12_otherEnd 29 = .ok (.iload_n 2, 1) := by decide +kernel
theorem dX12_otherEnd_30 : decode cX12_otherEnd 30 = .ok (.isub, 1) := by decide +kernel
theorem dX12_otherEnd_31 : decode cX12_otherEnd 31 = .ok (.ireturn, 1) := by decide +kernel
theorem dX12_streetsAt_0 : decode cX12_streetsAt 0 = .ok (.iconst 0, 1) := by decide +kernel
theorem dX12_streetsAt_1 : decode cX12_streetsAt 1 = .ok (.istore_n 2, 1) := by decide +kernel
theorem dX12_streetsAt_2 : decode cX12_streetsAt 2 = .ok (.iconst 0, 1) := by decide +kernel
theorem dX12_streetsAt_3 : decode cX12_streetsAt 3 = .ok (.istore_n 3, 1) := by decide +kernel
theorem dX12_streetsAt_4 : decode cX12_streetsAt 4 = .ok (.iload_n 3, 1) := by decide +kernel
theorem dX12_streetsAt_5 : decode cX12_streetsAt 5 = .ok (.aload_n 0, 1) := by decide +kernel
theorem dX12_streetsAt_6 : decode cX12_streetsAt 6 = .ok (.getfield 49, 3) := by decide +kernel
theorem dX12_streetsAt_9 : decode cX12_streetsAt 9 = .ok (.aload_n 0, 1) := by decide +kernel
theorem dX12_streetsAt_10 : decode cX12_streetsAt 10 = .ok (.getfield 251, 3) := by decide +kernel
theorem dX12_streetsAt_13 : decode cX12_streetsAt 13 = .ok (.iaload, 1) := by decide +kernel
theorem dX12_streetsAt_14 : decode cX12_streetsAt 14 = .ok (.if_icmp .ge 24, 3) := by decide +kernel
theorem dX12_streetsAt_17 : decode cX12_streetsAt 17 = .ok (.aload_n 0, 1) := by decide +kernel
theorem dX12_streetsAt_18 : decode cX12_streetsAt 18 = .ok (.iload_n 3, 1) := by decide +kernel
theorem dX12_streetsAt_19 : decode cX12_streetsAt 19 = .ok (.iload_n 1, 1) := by decide +kernel
theorem dX12_streetsAt_20 : decode cX12_streetsAt 20 = .ok (.invokevirtual 401, 3) := by decide +kernel
theorem dX12_streetsAt_23 : decode cX12_streetsAt 23 = .ok (.ifCond .eq 9, 3) := by decide +kernel
theorem dX12_streetsAt_26 : decode cX12_streetsAt 26 = .ok (.iload_n 2, 1) := by decide +kernel
theorem dX12_streetsAt_27 : decode cX12_streetsAt 27 = .ok (.iconst 1, 1) := by decide +kernel
theorem dX12_streetsAt_28 : decode cX12_streetsAt 28 = .ok (.iload_n 3, 1) := by decide +kernel
theorem dX12_streetsAt_29 : decode cX12_streetsAt 29 = .ok (.ishl, 1) := by decide +kernel
theorem dX12_streetsAt_30 : decode cX12_streetsAt 30 = .ok (.ior, 1) := by decide +kernel
theorem dX12_streetsAt_31 : decode cX12_streetsAt 31 = .ok (.istore_n 2, 1) := by decide +kernel
theorem dX12_streetsAt_32 : decode cX12_streetsAt 32 = .ok (.iinc 3 1, 3) := by decide +kernel
theorem dX12_streetsAt_35 : decode cX12_streetsAt 35 = .ok (.goto (-31), 3) := by decide +kernel
theorem dX12_streetsAt_38 : decode cX12_streetsAt 38 = .ok (.iload_n 2, 1) := by decide +kernel
theorem dX12_streetsAt_39 : decode cX12_streetsAt 39 = .ok (.ireturn, 1) := by decide +kernel
theorem dX12_street_0 : decode cX12_street 0 = .ok (.aload_n 0, 1) := by decide +kernel
theorem dX12_street_1 : decode cX12_street 1 = .ok (.iload_n 1, 1) := by decide +kernel
theorem dX12_street_2 : decode cX12_street 2 = .ok (.invokevirtual 405, 3) := by decide +kernel
theorem dX12_street_5 : decode cX12_street 5 = .ok (.ifCond .ne 5, 3) := by decide +kernel
theorem dX12_street_8 : decode cX12_street 8 = .ok (.iconst (-1), 1) := by decide +kernel
theorem dX12_street_9 : decode cX12_street 9 = .ok (.ireturn, 1) := by decide +kernel
theorem dX12_street_10 : decode cX12_street 10 = .ok (.aload_n 0, 1) := by decide +kernel
theorem dX12_street_11 : decode cX12_street 11 = .ok (.invokevirtual 347, 3) := by decide +kernel
theorem dX12_street_14 : decode cX12_street 14 = .ok (.iload_n 2, 1) := by decide +kernel
theorem dX12_street_15 : decode cX12_street 15 = .ok (.tableswitch 98 0 4 #[33, 48, 63, 78, 92], 33) := by decide +kernel
theorem dX12_street_48 : decode cX12_street 48 = .ok (.aload_n 0, 1) := by decide +kernel
theorem dX12_street_49 : decode cX12_street 49 = .ok (.getfield 52, 3) := by decide +kernel
theorem dX12_street_52 : decode cX12_street 52 = .ok (.bipush 10, 2) := by decide +kernel
theorem dX12_street_54 : decode cX12_street 54 = .ok (.aload_n 0, 1) := by decide +kernel
theorem dX12_street_55 : decode cX12_street 55 = .ok (.getfield 251, 3) := by decide +kernel
theorem dX12_street_58 : decode cX12_street 58 = .ok (.imul, 1) := by decide +kernel
theorem dX12_street_59 : decode cX12_street 59 = .ok (.iload_n 1, 1) := by decide +kernel
theorem dX12_street_60 : decode cX12_street 60 = .ok (.iadd, 1) := by decide +kernel
theorem dX12_street_61 : decode cX12_street 61 = .ok (.iaload, 1) := by decide +kernel
theorem dX12_street_62 : decode cX12_street 62 = .ok (.ireturn, 1) := by decide +kernel
theorem dX12_street_63 : decode cX12_street 63 = .ok (.aload_n 0, 1) := by decide +kernel
theorem dX12_street_64 : decode cX12_street 64 = .ok (.getfield 55, 3) := by decide +kernel
theorem dX12_street_67 : decode cX12_street 67 = .ok (.bipush 10, 2) := by decide +kernel
theorem dX12_street_69 : decode cX12_street 69 = .ok (.aload_n 0, 1) := by decide +kernel
theorem dX12_street_70 : decode cX12_street 70 = .ok (.getfield 251, 3) := by decide +kernel
theorem dX12_street_73 : decode cX12_street 73 = .ok (.imul, 1) := by decide +kernel
theorem dX12_street_74 : decode cX12_street 74 = .ok (.iload_n 1, 1) := by decide +kernel
theorem dX12_street_75 : decode cX12_street 75 = .ok (.iadd, 1) := by decide +kernel
theorem dX12_street_76 : decode cX12_street 76 = .ok (.iaload, 1) := by decide +kernel
theorem dX12_street_77 : decode cX12_street 77 = .ok (.ireturn, 1) := by decide +kernel
theorem dX12_street_78 : decode cX12_street 78 = .ok (.aload_n 0, 1) := by decide +kernel
theorem dX12_street_79 : decode cX12_street 79 = .ok (.getfield 58, 3) := by decide +kernel
theorem dX12_street_82 : decode cX12_street 82 = .ok (.bipush 10, 2) := by decide +kernel
theorem dX12_street_84 : decode cX12_street 84 = .ok (.aload_n 0, 1) := by decide +kernel
theorem dX12_street_85 : decode cX12_street 85 = .ok (.getfield 251, 3) := by decide +kernel
theorem dX12_street_88 : decode cX12_street 88 = .ok (.imul, 1) := by decide +kernel
theorem dX12_street_89 : decode cX12_street 89 = .ok (.iload_n 1, 1) := by decide +kernel
theorem dX12_street_90 : decode cX12_street 90 = .ok (.iadd, 1) := by decide +kernel
theorem dX12_street_91 : decode cX12_street 91 = .ok (.iaload, 1) := by decide +kernel
theorem dX12_street_92 : decode cX12_street 92 = .ok (.ireturn, 1) := by decide +kernel
theorem dX12_street_93 : decode cX12_street 93 = .ok (.aload_n 0, 1) := by decide +kernel
theorem dX12_street_94 : decode cX12_street 94 = .ok (.iload_n 1, 1) := by decide +kernel
theorem dX12_street_95 : decode cX12_street 95 = .ok (.invokevirtual 408, 3) := by decide +kernel
theorem dX12_street_98 : decode cX12_street 98 = .ok (.ifCond .ne 7, 3) := by decide +kernel
theorem dX12_street_101 : decode cX12_street 101 = .ok (.iconst 1, 1) := by decide +kernel
theorem dX12_street_102 : decode cX12_street 102 = .ok (.goto 4, 3) := by decide +kernel
theorem dX12_street_105 : decode cX12_street 105 = .ok (.iconst 0, 1) := by decide +kernel
theorem dX12_street_106 : decode cX12_street 106 = .ok (.ireturn, 1) := by decide +kernel
theorem dX12_street_107 : decode cX12_street 107 = .ok (.aload_n 0, 1) := by decide +kernel
theorem dX12_street_108 : decode cX12_street 108 = .ok (.iload_n 1, 1) := by decide +kernel
theorem dX12_street_109 : decode cX12_street 109 = .ok (.invokevirtual 408, 3) := by decide +kernel
theorem dX12_street_112 : decode cX12_street 112 = .ok (.ireturn, 1) := by decide +kernel
theorem dX12_street_113 : decode cX12_street 113 = .ok (.iconst (-1), 1) := by decide +kernel
theorem dX12_street_114 : decode cX12_street 114 = .ok (.ireturn, 1) := by decide +kernel
theorem dX12_young_0 : decode cX12_young 0 = .ok (.aload_n 0, 1) := by decide +kernel
theorem dX12_young_1 : decode cX12_young 1 = .ok (.iload_n 1, 1) := by decide +kernel
theorem dX12_young_2 : decode cX12_young 2 = .ok (.invokevirtual 338, 3) := by decide +kernel
theorem dX12_young_5 : decode cX12_young 5 = .ok (.ifCond .ne 5, 3) := by decide +kernel
theorem dX12_young_8 : decode cX12_young 8 = .ok (.iconst (-1), 1) := by decide +kernel
theorem dX12_young_9 : decode cX12_young 9 = .ok (.ireturn, 1) := by decide +kernel
theorem dX12_young_10 : decode cX12_young 10 = .ok (.aload_n 0, 1) := by decide +kernel
theorem dX12_young_11 : decode cX12_young 11 = .ok (.invokevirtual 347, 3) := by decide +kernel
theorem dX12_young_14 : decode cX12_young 14 = .ok (.iload_n 2, 1) := by decide +kernel
theorem dX12_young_15 : decode cX12_young 15 = .ok (.tableswitch 185 0 9 #[53, 68, 83, 90, 100, 110, 120, 138, 148, 171], 53) := by decide +kernel
theorem dX12_young_68 : decode cX12_young 68 = .ok (.aload_n 0, 1) := by decide +kernel
theorem dX12_young_69 : decode cX12_young 69 = .ok (.getfield 64, 3) := by decide +kernel
theorem dX12_young_72 : decode cX12_young 72 = .ok (.bipush 6, 2) := by decide +kernel
theorem dX12_young_74 : decode cX12_young 74 = .ok (.aload_n 0, 1) := by decide +kernel
theorem dX12_young_75 : decode cX12_young 75 = .ok (.getfield 251, 3) := by decide +kernel
theorem dX12_young_78 : decode cX12_young 78 = .ok (.imul, 1) := by decide +kernel
theorem dX12_young_79 : decode cX12_young 79 = .ok (.iload_n 1, 1) := by decide +kernel
theorem dX12_young_80 : decode cX12_young 80 = .ok (.iadd, 1) := by decide +kernel
theorem dX12_young_81 : decode cX12_young 81 = .ok (.iaload, 1) := by decide +kernel
theorem dX12_young_82 : decode cX12_young 82 = .ok (.ireturn, 1) := by decide +kernel
theorem dX12_young_83 : decode cX12_young 83 = .ok (.aload_n 0, 1) := by decide +kernel
theorem dX12_young_84 : decode cX12_young 84 = .ok (.getfield 67, 3) := by decide +kernel
theorem dX12_young_87 : decode cX12_young 87 = .ok (.bipush 6, 2) := by decide +kernel
theorem dX12_young_89 : decode cX12_young 89 = .ok (.aload_n 0, 1) := by decide +kernel
theorem dX12_young_90 : decode cX12_young 90 = .ok (.getfield 251, 3) := by decide +kernel
theorem dX12_young_93 : decode cX12_young 93 = .ok (.imul, 1) := by decide +kernel
theorem dX12_young_94 : decode cX12_young 94 = .ok (.iload_n 1, 1) := by decide +kernel
theorem dX12_young_95 : decode cX12_young 95 = .ok (.iadd, 1) := by decide +kernel
theorem dX12_young_96 : decode cX12_young 96 = .ok (.iaload, 1) := by decide +kernel
theorem dX12_young_97 : decode cX12_young 97 = .ok (.ireturn, 1) := by decide +kernel
theorem dX12_young_98 : decode cX12_young 98 = .ok (.aload_n 0, 1) := by decide +kernel
theorem dX12_young_99 : decode cX12_young 99 = .ok (.getfield 128, 3) := by decide +kernel
theorem dX12_young_102 : decode cX12_young 102 = .ok (.iload_n 1, 1) := by decide +kernel
theorem dX12_young_103 : decode cX12_young 103 = .ok (.iaload, 1) := by decide +kernel
theorem dX12_young_104 : decode cX12_young 104 = .ok (.ireturn, 1) := by decide +kernel
theorem dX12_young_105 : decode cX12_young 105 = .ok (.aload_n 0, 1) := by decide +kernel
theorem dX12_young_106 : decode cX12_young 106 = .ok (.getfield 128, 3) := by decide +kernel
theorem dX12_young_109 : decode cX12_young 109 = .ok (.bipush 6, 2) := by decide +kernel
theorem dX12_young_111 : decode cX12_young 111 = .ok (.iload_n 1, 1) := by decide +kernel
theorem dX12_young_112 : decode cX12_young 112 = .ok (.iadd, 1) := by decide +kernel
theorem dX12_young_113 : decode cX12_young 113 = .ok (.iaload, 1) := by decide +kernel
theorem dX12_young_114 : decode cX12_young 114 = .ok (.ireturn, 1) := by decide +kernel
theorem dX12_young_115 : decode cX12_young 115 = .ok (.aload_n 0, 1) := by decide +kernel
theorem dX12_young_116 : decode cX12_young 116 = .ok (.getfield 128, 3) := by decide +kernel
theorem dX12_young_119 : decode cX12_young 119 = .ok (.bipush 12, 2) := by decide +kernel
theorem dX12_young_121 : decode cX12_young 121 = .ok (.iload_n 1, 1) := by decide +kernel
theorem dX12_young_122 : decode cX12_young 122 = .ok (.iadd, 1) := by decide +kernel
theorem dX12_young_123 : decode cX12_young 123 = .ok (.iaload, 1) := by decide +kernel
theorem dX12_young_124 : decode cX12_young 124 = .ok (.ireturn, 1) := by decide +kernel
theorem dX12_young_125 : decode cX12_young 125 = .ok (.aload_n 0, 1) := by decide +kernel
theorem dX12_young_126 : decode cX12_young 126 = .ok (.getfield 128, 3) := by decide +kernel
theorem dX12_young_129 : decode cX12_young 129 = .ok (.bipush 18, 2) := by decide +kernel
theorem dX12_young_131 : decode cX12_young 131 = .ok (.iload_n 1, 1) := by decide +kernel
theorem dX12_young_132 : decode cX12_young 132 = .ok (.iadd, 1) := by decide +kernel
theorem dX12_young_133 : decode cX12_young 133 = .ok (.iaload, 1) := by decide +kernel
theorem dX12_young_134 : decode cX12_young 134 = .ok (.ireturn, 1) := by decide +kernel
theorem dX12_young_135 : decode cX12_young 135 = .ok (.aload_n 0, 1) := by decide +kernel
theorem dX12_young_136 : decode cX12_young 136 = .ok (.getfield 128, 3) := by decide +kernel
theorem dX12_young_139 : decode cX12_young 139 = .ok (.bipush 47, 2) := by decide +kernel
theorem dX12_young_141 : decode cX12_young 141 = .ok (.iaload, 1) := by decide +kernel
theorem dX12_young_142 : decode cX12_young 142 = .ok (.aload_n 0, 1) := by decide +kernel
theorem dX12_young_143 : decode cX12_young 143 = .ok (.getfield 128, 3) := by decide +kernel
theorem dX12_young_146 : decode cX12_young 146 = .ok (.bipush 24, 2) := by decide +kernel
theorem dX12_young_148 : decode cX12_young 148 = .ok (.iload_n 1, 1) := by decide +kernel
theorem dX12_young_149 : decode cX12_young 149 = .ok (.iadd, 1) := by decide +kernel
theorem dX12_young_150 : decode cX12_young 150 = .ok (.iaload, 1) := by decide +kernel
theorem dX12_young_151 : decode cX12_young 151 = .ok (.isub, 1) := by decide +kernel
theorem dX12_young_152 : decode cX12_young 152 = .ok (.ireturn, 1) := by decide +kernel
theorem dX12_young_153 : decode cX12_young 153 = .ok (.aload_n 0, 1) := by decide +kernel
theorem dX12_young_154 : decode cX12_young 154 = .ok (.getfield 128, 3) := by decide +kernel
theorem dX12_young_157 : decode cX12_young 157 = .ok (.bipush 30, 2) := by decide +kernel
theorem dX12_young_159 : decode cX12_young 159 = .ok (.iload_n 1, 1) := by decide +kernel
theorem dX12_young_160 : decode cX12_young 160 = .ok (.iadd, 1) := by decide +kernel
theorem dX12_young_161 : decode cX12_young 161 = .ok (.iaload, 1) := by decide +kernel
theorem dX12_young_162 : decode cX12_young 162 = .ok (.ireturn, 1) := by decide +kernel
theorem dX12_young_163 : decode cX12_young 163 = .ok (.aload_n 0, 1) := by decide +kernel
theorem dX12_young_164 : decode cX12_young 164 = .ok (.getfield 128, 3) := by decide +kernel
theorem dX12_young_167 : decode cX12_young 167 = .ok (.bipush 12, 2) := by decide +kernel
theorem dX12_young_169 : decode cX12_young 169 = .ok (.iload_n 1, 1) := by decide +kernel
theorem dX12_young_170 : decode cX12_young 170 = .ok (.iadd, 1) := by decide +kernel
theorem dX12_young_171 : decode cX12_young 171 = .ok (.iaload, 1) := by decide +kernel
theorem dX12_young_172 : decode cX12_young 172 = .ok (.iconst 1, 1) := by decide +kernel
theorem dX12_young_173 : decode cX12_young 173 = .ok (.if_icmp .ne 7, 3) := by decide +kernel
theorem dX12_young_176 : decode cX12_young 176 = .ok (.iconst 0, 1) := by decide +kernel
theorem dX12_young_177 : decode cX12_young 177 = .ok (.goto 8, 3) := by decide +kernel
theorem dX12_young_180 : decode cX12_young 180 = .ok (.aload_n 0, 1) := by decide +kernel
theorem dX12_young_181 : decode cX12_young 181 = .ok (.iload_n 1, 1) := by decide +kernel
theorem dX12_young_182 : decode cX12_young 182 = .ok (.invokevirtual 376, 3) := by decide +kernel
theorem dX12_young_185 : decode cX12_young 185 = .ok (.ireturn, 1) := by decide +kernel
theorem dX12_young_186 : decode cX12_young 186 = .ok (.aload_n 0, 1) := by decide +kernel
theorem dX12_young_187 : decode cX12_young 187 = .ok (.iload_n 1, 1) := by decide +kernel
theorem dX12_young_188 : decode cX12_young 188 = .ok (.invokevirtual 379, 3) := by decide +kernel
theorem dX12_young_191 : decode cX12_young 191 = .ok (.ifCond .eq 7, 3) := by decide +kernel
theorem dX12_young_194 : decode cX12_young 194 = .ok (.iconst 1, 1) := by decide +kernel
theorem dX12_young_195 : decode cX12_young 195 = .ok (.goto 4, 3) := by decide +kernel
theorem dX12_young_198 : decode cX12_young 198 = .ok (.iconst 0, 1) := by decide +kernel
theorem dX12_young_199 : decode cX12_young 199 = .ok (.ireturn, 1) := by decide +kernel
theorem dX12_young_200 : decode cX12_young 200 = .ok (.iconst (-1), 1) := by decide +kernel
theorem dX12_young_201 : decode cX12_young 201 = .ok (.ireturn, 1) := by decide +kernel
theorem dX12_word__0 : decode cX12_word_ 0 = .ok (.aload_n 0, 1) := by decide +kernel
theorem dX12_word__1 : decode cX12_word_ 1 = .ok (.iload_n 1, 1) := by decide +kernel
theorem dX12_word__2 : decode cX12_word_ 2 = .ok (.invokevirtual 411, 3) := by decide +kernel
theorem dX12_word__5 : decode cX12_word_ 5 = .ok (.ifCond .eq 12, 3) := by decide +kernel
theorem dX12_word__8 : decode cX12_word_ 8 = .ok (.iload_n 2, 1) := by decide +kernel
theorem dX12_word__9 : decode cX12_word_ 9 = .ok (.iconst 0, 1) := by decide +kernel
theorem dX12_word__10 : decode cX12_word_ 10 = .ok (.iconst 1, 1) := by decide +kernel
theorem dX12_word__11 : decode cX12_word_ 11 = .ok (.invokestatic 334, 3) := by decide +kernel
theorem dX12_word__14 : decode cX12_word_ 14 = .ok (.ifCond .ne 5, 3) := by decide +kernel
theorem dX12_word__17 : decode cX12_word_ 17 = .ok (.iconst (-1), 1) := by decide +kernel
theorem dX12_word__18 : decode cX12_word_ 18 = .ok (.ireturn, 1) := by decide +kernel
theorem dX12_word__19 : decode cX12_word_ 19 = .ok (.aload_n 0, 1) := by decide +kernel
theorem dX12_word__20 : decode cX12_word_ 20 = .ok (.getfield 125, 3) := by decide +kernel
theorem dX12_word__23 : decode cX12_word_ 23 = .ok (.bipush 36, 2) := by decide +kernel
theorem dX12_word__25 : decode cX12_word_ 25 = .ok (.iconst 5, 1) := by decide +kernel
theorem dX12_word__26 : decode cX12_word_ 26 = .ok (.iload_n 2, 1) := by decide +kernel
theorem dX12_word__27 : decode cX12_word_ 27 = .ok (.imul, 1) := by decide +kernel
theorem dX12_word__28 : decode cX12_word_ 28 = .ok (.iadd, 1) := by decide +kernel
theorem dX12_word__29 : decode cX12_word_ 29 = .ok (.iload_n 1, 1) := by decide +kernel
theorem dX12_word__30 : decode cX12_word_ 30 = .ok (.iadd, 1) := by decide +kernel
theorem dX12_word__31 : decode cX12_word_ 31 = .ok (.iaload, 1) := by decide +kernel
theorem dX12_word__32 : decode cX12_word_ 32 = .ok (.ireturn, 1) := by decide +kernel
theorem dX12_tells_0 : decode cX12_tells 0 = .ok (.aload_n 0, 1) := by decide +kernel
theorem dX12_tells_1 : decode cX12_tells 1 = .ok (.iload_n 1, 1) := by decide +kernel
theorem dX12_tells_2 : decode cX12_tells 2 = .ok (.invokevirtual 338, 3) := by decide +kernel
theorem dX12_tells_5 : decode cX12_tells 5 = .ok (.ifCond .eq 20, 3) := by decide +kernel
theorem dX12_tells_8 : decode cX12_tells 8 = .ok (.aload_n 0, 1) := by decide +kernel
theorem dX12_tells_9 : decode cX12_tells 9 = .ok (.iload_n 2, 1) := by decide +kernel
theorem dX12_tells_10 : decode cX12_tells 10 = .ok (.invokevirtual 411, 3) := by decide +kernel
theorem dX12_tells_13 : decode cX12_tells 13 = .ok (.ifCond .eq 12, 3) := by decide +kernel
theorem dX12_tells_16 : decode cX12_tells 16 = .ok (.iload_n 3, 1) := by decide +kernel
theorem dX12_tells_17 : decode cX12_tells 17 = .ok (.iconst 0, 1) := by decide +kernel
theorem dX12_tells_18 : decode cX12_tells 18 = .ok (.iconst 1, 1) := by decide +kernel
theorem dX12_tells_19 : decode cX12_tells 19 = .ok (.invokestatic 334, 3) := by decide +kernel
theorem dX12_tells_22 : decode cX12_tells 22 = .ok (.ifCond .ne 5, 3) := by decide +kernel
theorem dX12_tells_25 : decode cX12_tells 25 = .ok (.iconst (-1), 1) := by decide +kernel
theorem dX12_tells_26 : decode cX12_tells 26 = .ok (.ireturn, 1) := by decide +kernel
theorem dX12_tells_27 : decode cX12_tells 27 = .ok (.aload_n 0, 1) := by decide +kernel
theorem dX12_tells_28 : decode cX12_tells 28 = .ok (.invokevirtual 347, 3) := by decide +kernel
theorem dX12_tells_31 : decode cX12_tells 31 = .ok (.iload_n 3, 1) := by decide +kernel
theorem dX12_tells_32 : decode cX12_tells 32 = .ok (.ifCond .ne 12, 3) := by decide +kernel
theorem dX12_tells_35 : decode cX12_tells 35 = .ok (.aload_n 0, 1) := by decide +kernel
theorem dX12_tells_36 : decode cX12_tells 36 = .ok (.iload_n 1, 1) := by decide +kernel
theorem dX12_tells_37 : decode cX12_tells 37 = .ok (.iload_n 2, 1) := by decide +kernel
theorem dX12_tells_38 : decode cX12_tells 38 = .ok (.invokevirtual 370, 3) := by decide +kernel
theorem dX12_tells_41 : decode cX12_tells 41 = .ok (.goto 9, 3) := by decide +kernel
theorem dX12_tells_44 : decode cX12_tells 44 = .ok (.aload_n 0, 1) := by decide +kernel
theorem dX12_tells_45 : decode cX12_tells 45 = .ok (.iload_n 1, 1) := by decide +kernel
theorem dX12_tells_46 : decode cX12_tells 46 = .ok (.iload_n 2, 1) := by decide +kernel
theorem dX12_tells_47 : decode cX12_tells 47 = .ok (.invokevirtual 373, 3) := by decide +kernel
theorem dX12_tells_50 : decode cX12_tells 50 = .ok (.ireturn, 1) := by decide +kernel
theorem dX12_records_0 : decode cX12_records 0 = .ok (.aload_n 0, 1) := by decide +kernel
theorem dX12_records_1 : decode cX12_records 1 = .ok (.getfield 269, 3) := by decide +kernel
theorem dX12_records_4 : decode cX12_records 4 = .ok (.bipush 40, 2) := by decide +kernel
theorem dX12_records_6 : decode cX12_records 6 = .ok (.if_icmp .ne 43, 3) := by decide +kernel
theorem dX12_records_9 : decode cX12_records 9 = .ok (.iconst 0, 1) := by decide +kernel
theorem dX12_records_10 : decode cX12_records 10 = .ok (.istore_n 1, 1) := by decide +kernel
theorem dX12_records_11 : decode cX12_records 11 = .ok (.iload_n 1, 1) := by decide +kernel
theorem dX12_records_12 : decode cX12_records 12 = .ok (.sipush 1872, 3) := by decide +kernel
theorem dX12_records_15 : decode cX12_records 15 = .ok (.if_icmp .ge 24, 3) := by decide +kernel
theorem dX12_records_18 : decode cX12_records 18 = .ok (.aload_n 0, 1) := by decide +kernel
theorem dX12_records_19 : decode cX12_records 19 = .ok (.getfield 140, 3) := by decide +kernel
theorem dX12_records_22 : decode cX12_records 22 = .ok (.iload_n 1, 1) := by decide +kernel
theorem dX12_records_23 : decode cX12_records 23 = .ok (.aload_n 0, 1) := by decide +kernel
theorem dX12_records_24 : decode cX12_records 24 = .ok (.getfield 140, 3) := by decide +kernel
theorem dX12_records_27 : decode cX12_records 27 = .ok (.iload_n 1, 1) := by decide +kernel
theorem dX12_records_28 : decode cX12_records 28 = .ok (.bipush 48, 2) := by decide +kernel
theorem dX12_records_30 : decode cX12_records 30 = .ok (.iadd, 1) := by decide +kernel
theorem dX12_records_31 : decode cX12_records 31 = .ok (.iaload, 1) := by decide +kernel
theorem dX12_records_32 : decode cX12_records 32 = .ok (.iastore, 1) := by decide +kernel
theorem dX12_records_33 : decode cX12_records 33 = .ok (.iinc 1 1, 3) := by decide +kernel
theorem dX12_records_36 : decode cX12_records 36 = .ok (.goto (-25), 3) := by decide +kernel
theorem dX12_records_39 : decode cX12_records 39 = .ok (.aload_n 0, 1) := by decide +kernel
theorem dX12_records_40 : decode cX12_records 40 = .ok (.dup, 1) := by decide +kernel
theorem dX12_records_41 : decode cX12_records 41 = .ok (.getfield 269, 3) := by decide +kernel
theorem dX12_records_44 : decode cX12_records 44 = .ok (.iconst 1, 1) := by decide +kernel
theorem dX12_records_45 : decode cX12_records 45 = .ok (.isub, 1) := by decide +kernel
theorem dX12_records_46 : decode cX12_records 46 = .ok (.putfield 269, 3) := by decide +kernel
theorem dX12_records_49 : decode cX12_records 49 = .ok (.iconst 0, 1) := by decide +kernel
theorem dX12_records_50 : decode cX12_records 50 = .ok (.istore_n 1, 1) := by decide +kernel
theorem dX12_records_51 : decode cX12_records 51 = .ok (.iload_n 1, 1) := by decide +kernel
theorem dX12_records_52 : decode cX12_records 52 = .ok (.bipush 48, 2) := by decide +kernel
theorem dX12_records_54 : decode cX12_records 54 = .ok (.if_icmp .ge 29, 3) := by decide +kernel
theorem dX12_records_57 : decode cX12_records 57 = .ok (.aload_n 0, 1) := by decide +kernel
theorem dX12_records_58 : decode cX12_records 58 = .ok (.getfield 140, 3) := by decide +kernel
theorem dX12_records_61 : decode cX12_records 61 = .ok (.bipush 48, 2) := by decide +kernel
theorem dX12_records_63 : decode cX12_records 63 = .ok (.aload_n 0, 1) := by decide +kernel
theorem dX12_records_64 : decode cX12_records 64 = .ok (.getfield 269, 3) := by decide +kernel
theorem dX12_records_67 : decode cX12_records 67 = .ok (.imul, 1) := by decide +kernel
theorem dX12_records_68 : decode cX12_records 68 = .ok (.iload_n 1, 1) := by decide +kernel
theorem dX12_records_69 : decode cX12_records 69 = .ok (.iadd, 1) := by decide +kernel
theorem dX12_records_70 : decode cX12_records 70 = .ok (.aload_n 0, 1) := by decide +kernel
theorem dX12_records_71 : decode cX12_records 71 = .ok (.getfield 125, 3) := by decide +kernel
theorem dX12_records_74 : decode cX12_records 74 = .ok (.iload_n 1, 1) := by decide +kernel
theorem dX12_records_75 : decode cX12_records 75 = .ok (.iaload, 1) := by decide +kernel
theorem dX12_records_76 : decode cX12_records 76 = .ok (.iastore, 1) := by decide +kernel
theorem dX12_records_77 : decode cX12_records 77 = .ok (.iinc 1 1, 3) := by decide +kernel
theorem dX12_records_80 : decode cX12_records 80 = .ok (.goto (-29), 3) := by decide +kernel
theorem dX12_records_83 : decode cX12_records 83 = .ok (.aload_n 0, 1) := by decide +kernel
theorem dX12_records_84 : decode cX12_records 84 = .ok (.dup, 1) := by decide +kernel
theorem dX12_records_85 : decode cX12_records 85 = .ok (.getfield 269, 3) := by decide +kernel
theorem dX12_records_88 : decode cX12_records 88 = .ok (.iconst 1, 1) := by decide +kernel
theorem dX12_records_89 : decode cX12_records 89 = .ok (.iadd, 1) := by decide +kernel
theorem dX12_records_90 : decode cX12_records 90 = .ok (.putfield 269, 3) := by decide +kernel
theorem dX12_records_93 : decode cX12_records 93 = .ok (.aload_n 0, 1) := by decide +kernel
theorem dX12_records_94 : decode cX12_records 94 = .ok (.invokevirtual 181, 3) := by decide +kernel
theorem dX12_records_97 : decode cX12_records 97 = .ok (.return_, 1) := by decide +kernel
theorem dX12_step_0 : decode cX12_step 0 = .ok (.aload_n 0, 1) := by decide +kernel
theorem dX12_step_1 : decode cX12_step 1 = .ok (.iload_n 1, 1) := by decide +kernel
theorem dX12_step_2 : decode cX12_step 2 = .ok (.invokevirtual 405, 3) := by decide +kernel
theorem dX12_step_5 : decode cX12_step 5 = .ok (.ifCond .eq 18, 3) := by decide +kernel
theorem dX12_step_8 : decode cX12_step 8 = .ok (.aload_n 0, 1) := by decide +kernel
theorem dX12_step_9 : decode cX12_step 9 = .ok (.iload_n 1, 1) := by decide +kernel
theorem dX12_step_10 : decode cX12_step 10 = .ok (.aload_n 0, 1) := by decide +kernel
theorem dX12_step_11 : decode cX12_step 11 = .ok (.getfield 125, 3) := by decide +kernel
theorem dX12_step_14 : decode cX12_step 14 = .ok (.bipush 46, 2) := by decide +kernel
theorem dX12_step_16 : decode cX12_step 16 = .ok (.iaload, 1) := by decide +kernel
theorem dX12_step_17 : decode cX12_step 17 = .ok (.invokevirtual 401, 3) := by decide +kernel
theorem dX12_step_20 : decode cX12_step 20 = .ok (.ifCond .ne 5, 3) := by decide +kernel
theorem dX12_step_23 : decode cX12_step 23 = .ok (.iconst (-1), 1) := by decide +kernel
theorem dX12_step_24 : decode cX12_step 24 = .ok (.ireturn, 1) := by decide +kernel
theorem dX12_step_25 : decode cX12_step 25 = .ok (.aload_n 0, 1) := by decide +kernel
theorem dX12_step_26 : decode cX12_step 26 = .ok (.invokevirtual 347, 3) := by decide +kernel
theorem dX12_step_29 : decode cX12_step 29 = .ok (.aload_n 0, 1) := by decide +kernel
theorem dX12_step_30 : decode cX12_step 30 = .ok (.getfield 128, 3) := by decide +kernel
theorem dX12_step_33 : decode cX12_step 33 = .ok (.bipush 46, 2) := by decide +kernel
theorem dX12_step_35 : decode cX12_step 35 = .ok (.aload_n 0, 1) := by decide +kernel
theorem dX12_step_36 : decode cX12_step 36 = .ok (.iload_n 1, 1) := by decide +kernel
theorem dX12_step_37 : decode cX12_step 37 = .ok (.aload_n 0, 1) := by decide +kernel
theorem dX12_step_38 : decode cX12_step 38 = .ok (.getfield 128, 3) := by decide +kernel
theorem dX12_step_41 : decode cX12_step 41 = .ok (.bipush 46, 2) := by decide +kernel
theorem dX12_step_43 : decode cX12_step 43 = .ok (.iaload, 1) := by decide +kernel
theorem dX12_step_44 : decode cX12_step 44 = .ok (.invokevirtual 414, 3) := by decide +kernel
theorem dX12_step_47 : decode cX12_step 47 = .ok (.iastore, 1) := by decide +kernel
theorem dX12_step_48 : decode cX12_step 48 = .ok (.aload_n 0, 1) := by decide +kernel
theorem dX12_step_49 : decode cX12_step 49 = .ok (.invokevirtual 386, 3) := by decide +kernel
theorem dX12_step_52 : decode cX12_step 52 = .ok (.aload_n 0, 1) := by decide +kernel
theorem dX12_step_53 : decode cX12_step 53 = .ok (.invokevirtual 417, 3) := by decide +kernel
theorem dX12_step_56 : decode cX12_step 56 = .ok (.aload_n 0, 1) := by decide +kernel
theorem dX12_step_57 : decode cX12_step 57 = .ok (.getfield 125, 3) := by decide +kernel
theorem dX12_step_60 : decode cX12_step 60 = .ok (.bipush 46, 2) := by decide +kernel
theorem dX12_step_62 : decode cX12_step 62 = .ok (.iaload, 1) := by decide +kernel
theorem dX12_step_63 : decode cX12_step 63 = .ok (.ireturn, 1) := by decide +kernel
theorem dX12_say_0 : decode cX12_say 0 = .ok (.aload_n 0, 1) := by decide +kernel
theorem dX12_say_1 : decode cX12_say 1 = .ok (.iload_n 1, 1) := by decide +kernel
theorem dX12_say_2 : decode cX12_say 2 = .ok (.invokevirtual 420, 3) := by decide +kernel
theorem dX12_say_5 : decode cX12_say 5 = .ok (.ifCond .eq 27, 3) := by decide +kernel
theorem dX12_say_8 : decode cX12_say 8 = .ok (.aload_n 0, 1) := by decide +kernel
theorem dX12_say_9 : decode cX12_say 9 = .ok (.iload_n 2, 1) := by decide +kernel
theorem dX12_say_10 : decode cX12_say 10 = .ok (.invokevirtual 411, 3) := by decide +kernel
theorem dX12_say_13 : decode cX12_say 13 = .ok (.ifCond .eq 19, 3) := by decide +kernel
theorem dX12_say_16 : decode cX12_say 16 = .ok (.aload_n 0, 1) := by decide +kernel
theorem dX12_say_17 : decode cX12_say 17 = .ok (.getfield 125, 3) := by decide +kernel
theorem dX12_say_20 : decode cX12_say 20 = .ok (.iload_n 1, 1) := by decide +kernel
theorem dX12_say_21 : decode cX12_say 21 = .ok (.iaload, 1) := by decide +kernel
theorem dX12_say_22 : decode cX12_say 22 = .ok (.aload_n 0, 1) := by decide +kernel
theorem dX12_say_23 : decode cX12_say 23 = .ok (.getfield 125, 3) := by decide +kernel
theorem dX12_say_26 : decode cX12_say 26 = .ok (.bipush 46, 2) := by decide +kernel
theorem dX12_say_28 : decode cX12_say 28 = .ok (.iaload, 1) := by decide +kernel
theorem dX12_say_29 : decode cX12_say 29 = .ok (.if_icmp .eq 5, 3) := by decide +kernel
theorem dX12_say_32 : decode cX12_say 32 = .ok (.iconst (-1), 1) := by decide +kernel
theorem dX12_say_33 : decode cX12_say 33 = .ok (.ireturn, 1) := by decide +kernel
theorem dX12_say_34 : decode cX12_say 34 = .ok (.aload_n 0, 1) := by decide +kernel
theorem dX12_say_35 : decode cX12_say 35 = .ok (.invokevirtual 347, 3) := by decide +kernel
theorem dX12_say_38 : decode cX12_say 38 = .ok (.aload_n 0, 1) := by decide +kernel
theorem dX12_say_39 : decode cX12_say 39 = .ok (.iload_n 1, 1) := by decide +kernel
theorem dX12_say_40 : decode cX12_say 40 = .ok (.iload_n 2, 1) := by decide +kernel
theorem dX12_say_41 : decode cX12_say 41 = .ok (.invokevirtual 423, 3) := by decide +kernel
theorem dX12_say_44 : decode cX12_say 44 = .ok (.aload_n 0, 1) := by decide +kernel
theorem dX12_say_45 : decode cX12_say 45 = .ok (.invokevirtual 417, 3) := by decide +kernel
theorem dX12_say_48 : decode cX12_say 48 = .ok (.aload_n 0, 1) := by decide +kernel
theorem dX12_say_49 : decode cX12_say 49 = .ok (.getfield 125, 3) := by decide +kernel
theorem dX12_say_52 : decode cX12_say 52 = .ok (.bipush 6, 2) := by decide +kernel
theorem dX12_say_54 : decode cX12_say 54 = .ok (.iload_n 1, 1) := by decide +kernel
theorem dX12_say_55 : decode cX12_say 55 = .ok (.iadd, 1) := by decide +kernel
theorem dX12_say_56 : decode cX12_say 56 = .ok (.iaload, 1) := by decide +kernel
theorem dX12_say_57 : decode cX12_say 57 = .ok (.ireturn, 1) := by decide +kernel
theorem dX12_move_0 : decode cX12_move 0 = .ok (.aload_n 0, 1) := by decide +kernel
theorem dX12_move_1 : decode cX12_move 1 = .ok (.iload_n 1, 1) := by decide +kernel
theorem dX12_move_2 : decode cX12_move 2 = .ok (.invokevirtual 420, 3) := by decide +kernel
theorem dX12_move_5 : decode cX12_move 5 = .ok (.ifCond .eq 21, 3) := by decide +kernel
theorem dX12_move_8 : decode cX12_move 8 = .ok (.aload_n 0, 1) := by decide +kernel
theorem dX12_move_9 : decode cX12_move 9 = .ok (.iload_n 2, 1) := by decide +kernel
theorem dX12_move_10 : decode cX12_move 10 = .ok (.invokevirtual 392, 3) := by decide +kernel
theorem dX12_move_13 : decode cX12_move 13 = .ok (.ifCond .eq 13, 3) := by decide +kernel
theorem dX12_move_16 : decode cX12_move 16 = .ok (.aload_n 0, 1) := by decide +kernel
theorem dX12_move_17 : decode cX12_move 17 = .ok (.getfield 125, 3) := by decide +kernel
theorem dX12_move_20 : decode cX12_move 20 = .ok (.iload_n 1, 1) := by decide +kernel
theorem dX12_move_21 : decode cX12_move 21 = .ok (.iaload, 1) := by decide +kernel
theorem dX12_move_22 : decode cX12_move 22 = .ok (.iload_n 2, 1) := by decide +kernel
theorem dX12_move_23 : decode cX12_move 23 = .ok (.if_icmp .ne 5, 3) := by decide +kernel
theorem dX12_move_26 : decode cX12_move 26 = .ok (.iconst 0, 1) := by decide +kernel
theorem dX12_move_27 : decode cX12_move 27 = .ok (.ireturn, 1) := by decide +kernel
theorem dX12_move_28 : decode cX12_move 28 = .ok (.aload_n 0, 1) := by decide +kernel
theorem dX12_move_29 : decode cX12_move 29 = .ok (.invokevirtual 347, 3) := by decide +kernel
theorem dX12_move_32 : decode cX12_move 32 = .ok (.aload_n 0, 1) := by decide +kernel
theorem dX12_move_33 : decode cX12_move 33 = .ok (.getfield 128, 3) := by decide +kernel
theorem dX12_move_36 : decode cX12_move 36 = .ok (.iload_n 1, 1) := by decide +kernel
theorem dX12_move_37 : decode cX12_move 37 = .ok (.iload_n 2, 1) := by decide +kernel
theorem dX12_move_38 : decode cX12_move 38 = .ok (.iastore, 1) := by decide +kernel
theorem dX12_move_39 : decode cX12_move 39 = .ok (.aload_n 0, 1) := by decide +kernel
theorem dX12_move_40 : decode cX12_move 40 = .ok (.invokevirtual 417, 3) := by decide +kernel
theorem dX12_move_43 : decode cX12_move 43 = .ok (.iconst 1, 1) := by decide +kernel
theorem dX12_move_44 : decode cX12_move 44 = .ok (.ireturn, 1) := by decide +kernel
theorem dX12_rouge_0 : decode cX12_rouge 0 = .ok (.aload_n 0, 1) := by decide +kernel
theorem dX12_rouge_1 : decode cX12_rouge 1 = .ok (.iload_n 1, 1) := by decide +kernel
theorem dX12_rouge_2 : decode cX12_rouge 2 = .ok (.invokevirtual 420, 3) := by decide +kernel
theorem dX12_rouge_5 : decode cX12_rouge 5 = .ok (.ifCond .ne 5, 3) := by decide +kernel
theorem dX12_rouge_8 : decode cX12_rouge 8 = .ok (.iconst 0, 1) := by decide +kernel
theorem dX12_rouge_9 : decode cX12_rouge 9 = .ok (.ireturn, 1) := by decide +kernel
theorem dX12_rouge_10 : decode cX12_rouge 10 = .ok (.aload_n 0, 1) := by decide +kernel
theorem dX12_rouge_11 : decode cX12_rouge 11 = .ok (.invokevirtual 347, 3) := by decide +kernel
theorem dX12_rouge_14 : decode cX12_rouge 14 = .ok (.aload_n 0, 1) := by decide +kernel
theorem dX12_rouge_15 : decode cX12_rouge 15 = .ok (.getfield 128, 3) := by decide +kernel
theorem dX12_rouge_18 : decode cX12_rouge 18 = .ok (.bipush 6, 2) := by decide +kernel
theorem dX12_rouge_20 : decode cX12_rouge 20 = .ok (.iload_n 1, 1) := by decide +kernel
theorem dX12_rouge_21 : decode cX12_rouge 21 = .ok (.iadd, 1) := by decide +kernel
theorem dX12_rouge_22 : decode cX12_rouge 22 = .ok (.aload_n 0, 1) := by decide +kernel
theorem dX12_rouge_23 : decode cX12_rouge 23 = .ok (.getfield 128, 3) := by decide +kernel
theorem dX12_rouge_26 : decode cX12_rouge 26 = .ok (.bipush 6, 2) := by decide +kernel
theorem dX12_rouge_28 : decode cX12_rouge 28 = .ok (.iload_n 1, 1) := by decide +kernel
theorem dX12_rouge_29 : decode cX12_rouge 29 = .ok (.iadd, 1) := by decide +kernel
theorem dX12_rouge_30 : decode cX12_rouge 30 = .ok (.iaload, 1) := by decide +kernel
theorem dX12_rouge_31 : decode cX12_rouge 31 = .ok (.bipush 20, 2) := by decide +kernel
theorem dX12_rouge_33 : decode cX12_rouge 33 = .ok (.iadd, 1) := by decide +kernel
theorem dX12_rouge_34 : decode cX12_rouge 34 = .ok (.iconst 0, 1) := by decide +kernel
theorem dX12_rouge_35 : decode cX12_rouge 35 = .ok (.sipush 999, 3) := by decide +kernel
theorem dX12_rouge_38 : decode cX12_rouge 38 = .ok (.invokestatic 367, 3) := by decide +kernel
theorem dX12_rouge_41 : decode cX12_rouge 41 = .ok (.iastore, 1) := by decide +kernel
theorem dX12_rouge_42 : decode cX12_rouge 42 = .ok (.aload_n 0, 1) := by decide +kernel
theorem dX12_rouge_43 : decode cX12_rouge 43 = .ok (.getfield 128, 3) := by decide +kernel
theorem dX12_rouge_46 : decode cX12_rouge 46 = .ok (.bipush 30, 2) := by decide +kernel
theorem dX12_rouge_48 : decode cX12_rouge 48 = .ok (.iload_n 1, 1) := by decide +kernel
theorem dX12_rouge_49 : decode cX12_rouge 49 = .ok (.iadd, 1) := by decide +kernel
theorem dX12_rouge_50 : decode cX12_rouge 50 = .ok (.iconst 1, 1) := by decide +kernel
theorem dX12_rouge_51 : decode cX12_rouge 51 = .ok (.iastore, 1) := by decide +kernel
theorem dX12_rouge_52 : decode cX12_rouge 52 = .ok (.aload_n 0, 1) := by decide +kernel
theorem dX12_rouge_53 : decode cX12_rouge 53 = .ok (.invokevirtual 417, 3) := by decide +kernel
theorem dX12_rouge_56 : decode cX12_rouge 56 = .ok (.iconst 1, 1) := by decide +kernel
theorem dX12_rouge_57 : decode cX12_rouge 57 = .ok (.ireturn, 1) := by decide +kernel
theorem dX12_hours_0 : decode cX12_hours 0 = .ok (.iload_n 1, 1) := by decide +kernel
theorem dX12_hours_1 : decode cX12_hours 1 = .ok (.iconst 0, 1) := by decide +kernel
theorem dX12_hours_2 : decode cX12_hours 2 = .ok (.bipush 72, 2) := by decide +kernel
theorem dX12_hours_4 : decode cX12_hours 4 = .ok (.invokestatic 334, 3) := by decide +kernel
theorem dX12_hours_7 : decode cX12_hours 7 = .ok (.ifCond .ne 5, 3) := by decide +kernel
theorem dX12_hours_10 : decode cX12_hours 10 = .ok (.iconst (-1), 1) := by decide +kernel
theorem dX12_hours_11 : decode cX12_hours 11 = .ok (.ireturn, 1) := by decide +kernel
theorem dX12_hours_12 : decode cX12_hours 12 = .ok (.iload_n 1, 1) := by decide +kernel
theorem dX12_hours_13 : decode cX12_hours 13 = .ok (.ifCond .ne 11, 3) := by decide +kernel
theorem dX12_hours_16 : decode cX12_hours 16 = .ok (.aload_n 0, 1) := by decide +kernel
theorem dX12_hours_17 : decode cX12_hours 17 = .ok (.getfield 125, 3) := by decide +kernel
theorem dX12_hours_20 : decode cX12_hours 20 = .ok (.bipush 47, 2) := by decide +kernel
theorem dX12_hours_22 : decode cX12_hours 22 = .ok (.iaload, 1) := by decide +kernel
theorem dX12_hours_23 : decode cX12_hours 23 = .ok (.ireturn, 1) := by decide +kernel
theorem dX12_hours_24 : decode cX12_hours 24 = .ok (.aload_n 0, 1) := by decide +kernel
theorem dX12_hours_25 : decode cX12_hours 25 = .ok (.invokevirtual 347, 3) := by decide +kernel
theorem dX12_hours_28 : decode cX12_hours 28 = .ok (.aload_n 0, 1) := by decide +kernel
theorem dX12_hours_29 : decode cX12_hours 29 = .ok (.iload_n 1, 1) := by decide +kernel
theorem dX12_hours_30 : decode cX12_hours 30 = .ok (.invokevirtual 426, 3) := by decide +kernel
theorem dX12_hours_33 : decode cX12_hours 33 = .ok (.aload_n 0, 1) := by decide +kernel
theorem dX12_hours_34 : decode cX12_hours 34 = .ok (.invokevirtual 417, 3) := by decide +kernel
theorem dX12_hours_37 : decode cX12_hours 37 = .ok (.aload_n 0, 1) := by decide +kernel
theorem dX12_hours_38 : decode cX12_hours 38 = .ok (.getfield 125, 3) := by decide +kernel
theorem dX12_hours_41 : decode cX12_hours 41 = .ok (.bipush 47, 2) := by decide +kernel
theorem dX12_hours_43 : decode cX12_hours 43 = .ok (.iaload, 1) := by decide +kernel
theorem dX12_hours_44 : decode cX12_hours 44 = .ok (.ireturn, 1) := by decide +kernel
theorem dX12_undo_0 : decode cX12_undo 0 = .ok (.aload_n 0, 1) := by decide +kernel
theorem dX12_undo_1 : decode cX12_undo 1 = .ok (.getfield 269, 3) := by decide +kernel
theorem dX12_undo_4 : decode cX12_undo 4 = .ok (.ifCond .ne 5, 3) := by decide +kernel
theorem dX12_undo_7 : decode cX12_undo 7 = .ok (.iconst 0, 1) := by decide +kernel
theorem dX12_undo_8 : decode cX12_undo 8 = .ok (.ireturn, 1) := by decide +kernel
theorem dX12_undo_9 : decode cX12_undo 9 = .ok (.aload_n 0, 1) := by decide +kernel
theorem dX12_undo_10 : decode cX12_undo 10 = .ok (.dup, 1) := by decide +kernel
theorem dX12_undo_11 : decode cX12_undo 11 = .ok (.getfield 269, 3) := by decide +kernel
theorem dX12_undo_14 : decode cX12_undo 14 = .ok (.iconst 1, 1) := by decide +kernel
theorem dX12_undo_15 : decode cX12_undo 15 = .ok (.isub, 1) := by decide +kernel
theorem dX12_undo_16 : decode cX12_undo 16 = .ok (.putfield 269, 3) := by decide +kernel
theorem dX12_undo_19 : decode cX12_undo 19 = .ok (.iconst 0, 1) := by decide +kernel
theorem dX12_undo_20 : decode cX12_undo 20 = .ok (.istore_n 1, 1) := by decide +kernel
theorem dX12_undo_21 : decode cX12_undo 21 = .ok (.iload_n 1, 1) := by decide +kernel
theorem dX12_undo_22 : decode cX12_undo 22 = .ok (.bipush 48, 2) := by decide +kernel
theorem dX12_undo_24 : decode cX12_undo 24 = .ok (.if_icmp .ge 29, 3) := by decide +kernel
theorem dX12_undo_27 : decode cX12_undo 27 = .ok (.aload_n 0, 1) := by decide +kernel
theorem dX12_undo_28 : decode cX12_undo 28 = .ok (.getfield 125, 3) := by decide +kernel
theorem dX12_undo_31 : decode cX12_undo 31 = .ok (.iload_n 1, 1) := by decide +kernel
theorem dX12_undo_32 : decode cX12_undo 32 = .ok (.aload_n 0, 1) := by decide +kernel
theorem dX12_undo_33 : decode cX12_undo 33 = .ok (.getfield 140, 3) := by decide +kernel
theorem dX12_undo_36 : decode cX12_undo 36 = .ok (.bipush 48, 2) := by decide +kernel
theorem dX12_undo_38 : decode cX12_undo 38 = .ok (.aload_n 0, 1) := by decide +kernel
theorem dX12_undo_39 : decode cX12_undo 39 = .ok (.getfield 269, 3) := by decide +kernel
theorem dX12_undo_42 : decode cX12_undo 42 = .ok (.imul, 1) := by decide +kernel
theorem dX12_undo_43 : decode cX12_undo 43 = .ok (.iload_n 1, 1) := by decide +kernel
theorem dX12_undo_44 : decode cX12_undo 44 = .ok (.iadd, 1) := by decide +kernel
theorem dX12_undo_45 : decode cX12_undo 45 = .ok (.iaload, 1) := by decide +kernel
theorem dX12_undo_46 : decode cX12_undo 46 = .ok (.iastore, 1) := by decide +kernel
theorem dX12_undo_47 : decode cX12_undo 47 = .ok (.iinc 1 1, 3) := by decide +kernel
theorem dX12_undo_50 : decode cX12_undo 50 = .ok (.goto (-29), 3) := by decide +kernel
theorem dX12_undo_53 : decode cX12_undo 53 = .ok (.iconst 1, 1) := by decide +kernel
theorem dX12_undo_54 : decode cX12_undo 54 = .ok (.ireturn, 1) := by decide +kernel
theorem dX12_darkens_0 : decode cX12_darkens 0 = .ok (.aload_n 0, 1) := by decide +kernel
theorem dX12_darkens_1 : decode cX12_darkens 1 = .ok (.iload_n 1, 1) := by decide +kernel
theorem dX12_darkens_2 : decode cX12_darkens 2 = .ok (.invokevirtual 405, 3) := by decide +kernel
theorem dX12_darkens_5 : decode cX12_darkens 5 = .ok (.ifCond .ne 5, 3) := by decide +kernel
theorem dX12_darkens_8 : decode cX12_darkens 8 = .ok (.iconst (-1), 1) := by decide +kernel
theorem dX12_darkens_9 : decode cX12_darkens 9 = .ok (.ireturn, 1) := by decide +kernel
theorem dX12_darkens_10 : decode cX12_darkens 10 = .ok (.aload_n 0, 1) := by decide +kernel
theorem dX12_darkens_11 : decode cX12_darkens 11 = .ok (.invokevirtual 429, 3) := by decide +kernel
theorem dX12_darkens_14 : decode cX12_darkens 14 = .ok (.iconst 0, 1) := by decide +kernel
theorem dX12_darkens_15 : decode cX12_darkens 15 = .ok (.istore_n 2, 1) := by decide +kernel
theorem dX12_darkens_16 : decode cX12_darkens 16 = .ok (.iload_n 2, 1) := by decide +kernel
theorem dX12_darkens_17 : decode cX12_darkens 17 = .ok (.bipush 100, 2) := by decide +kernel
theorem dX12_darkens_19 : decode cX12_darkens 19 = .ok (.if_icmp .gt 23, 3) := by decide +kernel
theorem dX12_darkens_22 : decode cX12_darkens 22 = .ok (.aload_n 0, 1) := by decide +kernel
theorem dX12_darkens_23 : decode cX12_darkens 23 = .ok (.iload_n 1, 1) := by decide +kernel
theorem dX12_darkens_24 : decode cX12_darkens 24 = .ok (.invokevirtual 408, 3) := by decide +kernel
theorem dX12_darkens_27 : decode cX12_darkens 27 = .ok (.ifCond .le 5, 3) := by decide +kernel
theorem dX12_darkens_30 : decode cX12_darkens 30 = .ok (.iload_n 2, 1) := by decide +kernel
theorem dX12_darkens_31 : decode cX12_darkens 31 = .ok (.ireturn, 1) := by decide +kernel
theorem dX12_darkens_32 : decode cX12_darkens 32 = .ok (.aload_n 0, 1) := by decide +kernel
theorem dX12_darkens_33 : decode cX12_darkens 33 = .ok (.invokevirtual 386, 3) := by decide +kernel
theorem dX12_darkens_36 : decode cX12_darkens 36 = .ok (.iinc 2 1, 3) := by decide +kernel
theorem dX12_darkens_39 : decode cX12_darkens 39 = .ok (.goto (-23), 3) := by decide +kernel
theorem dX12_darkens_42 : decode cX12_darkens 42 = .ok (.bipush (-2), 2) := by decide +kernel
theorem dX12_darkens_44 : decode cX12_darkens 44 = .ok (.ireturn, 1) := by decide +kernel
theorem dX12_fillsBest_0 : decode cX12_fillsBest 0 = .ok (.aload_n 0, 1) := by decide +kernel
theorem dX12_fillsBest_1 : decode cX12_fillsBest 1 = .ok (.invokevirtual 347, 3) := by decide +kernel
theorem dX12_fillsBest_4 : decode cX12_fillsBest 4 = .ok (.iconst 1, 1) := by decide +kernel
theorem dX12_fillsBest_5 : decode cX12_fillsBest 5 = .ok (.istore_n 1, 1) := by decide +kernel
theorem dX12_fillsBest_6 : decode cX12_fillsBest 6 = .ok (.iconst 0, 1) := by decide +kernel
theorem dX12_fillsBest_7 : decode cX12_fillsBest 7 = .ok (.istore_n 2, 1) := by decide +kernel
theorem dX12_fillsBest_8 : decode cX12_fillsBest 8 = .ok (.iload_n 2, 1) := by decide +kernel
theorem dX12_fillsBest_9 : decode cX12_fillsBest 9 = .ok (.aload_n 0, 1) := by decide +kernel
theorem dX12_fillsBest_10 : decode cX12_fillsBest 10 = .ok (.getfield 61, 3) := by decide +kernel
theorem dX12_fillsBest_13 : decode cX12_fillsBest 13 = .ok (.aload_n 0, 1) := by decide +kernel
theorem dX12_fillsBest_14 : decode cX12_fillsBest 14 = .ok (.getfield 251, 3) := by decide +kernel
theorem dX12_fillsBest_17 : decode cX12_fillsBest 17 = .ok (.iaload, 1) := by decide +kernel
theorem dX12_fillsBest_18 : decode cX12_fillsBest 18 = .ok (.if_icmp .ge 33, 3) := by decide +kernel
theorem dX12_fillsBest_21 : decode cX12_fillsBest 21 = .ok (.aload_n 0, 1) := by decide +kernel
theorem dX12_fillsBest_22 : decode cX12_fillsBest 22 = .ok (.getfield 128, 3) := by decide +kernel
theorem dX12_fillsBest_25 : decode cX12_fillsBest 25 = .ok (.bipush 12, 2) := by decide +kernel
theorem dX12_fillsBest_27 : decode cX12_fillsBest 27 = .ok (.iload_n 2, 1) := by decide +kernel
theorem dX12_fillsBest_28 : decode cX12_fillsBest 28 = .ok (.iadd, 1) := by decide +kernel
theorem dX12_fillsBest_29 : decode cX12_fillsBest 29 = .ok (.iaload, 1) := by decide +kernel
theorem dX12_fillsBest_30 : decode cX12_fillsBest 30 = .ok (.ifCond .ne 15, 3) := by decide +kernel
theorem dX12_fillsBest_33 : decode cX12_fillsBest 33 = .ok (.iload_n 1, 1) := by decide +kernel
theorem dX12_fillsBest_34 : decode cX12_fillsBest 34 = .ok (.aload_n 0, 1) := by decide +kernel
theorem dX12_fillsBest_35 : decode cX12_fillsBest 35 = .ok (.getfield 46, 3) := by decide +kernel
theorem dX12_fillsBest_38 : decode cX12_fillsBest 38 = .ok (.aload_n 0, 1) := by decide +kernel
theorem dX12_fillsBest_39 : decode cX12_fillsBest 39 = .ok (.getfield 251, 3) := by decide +kernel
theorem dX12_fillsBest_42 : decode cX12_fillsBest 42 = .ok (.iaload, 1) := by decide +kernel
theorem dX12_fillsBest_43 : decode cX12_fillsBest 43 = .ok (.imul, 1) := by decide +kernel
theorem dX12_fillsBest_44 : decode cX12_fillsBest 44 = .ok (.istore_n 1, 1) := by decide +kernel
theorem dX12_fillsBest_45 : decode cX12_fillsBest 45 = .ok (.iinc 2 1, 3) := by decide +kernel
theorem dX12_fillsBest_48 : decode cX12_fillsBest 48 = .ok (.goto (-40), 3) := by decide +kernel
theorem dX12_fillsBest_51 : decode cX12_fillsBest 51 = .ok (.iconst (-1), 1) := by decide +kernel
theorem dX12_fillsBest_52 : decode cX12_fillsBest 52 = .ok (.istore_n 2, 1) := by decide +kernel
theorem dX12_fillsBest_53 : decode cX12_fillsBest 53 = .ok (.iconst 0, 1) := by decide +kernel
theorem dX12_fillsBest_54 : decode cX12_fillsBest 54 = .ok (.istore_n 3, 1) := by decide +kernel
theorem dX12_fillsBest_55 : decode cX12_fillsBest 55 = .ok (.iload_n 3, 1) := by decide +kernel
theorem dX12_fillsBest_56 : decode cX12_fillsBest 56 = .ok (.iload_n 1, 1) := by decide +kernel
theorem dX12_fillsBest_57 : decode cX12_fillsBest 57 = .ok (.if_icmp .ge 163, 3) := by decide +kernel
theorem dX12_fillsBest_60 : decode cX12_fillsBest 60 = .ok (.iload_n 3, 1) := by decide +kernel
theorem dX12_fillsBest_61 : decode cX12_fillsBest 61 = .ok (.istore 4, 2) := by decide +kernel
theorem dX12_fillsBest_63 : decode cX12_fillsBest 63 = .ok (.aload_n 0, 1) := by decide +kernel
theorem dX12_fillsBest_64 : decode cX12_fillsBest 64 = .ok (.getfield 61, 3) := by decide +kernel
theorem dX12_fillsBest_67 : decode cX12_fillsBest 67 = .ok (.aload_n 0, 1) := by decide +kernel
theorem dX12_fillsBest_68 : decode cX12_fillsBest 68 = .ok (.getfield 251, 3) := by decide +kernel
theorem dX12_fillsBest_71 : decode cX12_fillsBest 71 = .ok (.iaload, 1) := by decide +kernel
theorem dX12_fillsBest_72 : decode cX12_fillsBest 72 = .ok (.iconst 1, 1) := by decide +kernel
theorem dX12_fillsBest_73 : decode cX12_fillsBest 73 = .ok (.isub, 1) := by decide +kernel
theorem dX12_fillsBest_74 : decode cX12_fillsBest 74 = .ok (.istore 5, 2) := by decide +kernel
theorem dX12_fillsBest_76 : decode cX12_fillsBest 76 = .ok (.iload 5, 2) := by decide +kernel
theorem dX12_fillsBest_78 : decode cX12_fillsBest 78 = .ok (.ifCond .lt 59, 3) := by decide +kernel
theorem dX12_fillsBest_81 : decode cX12_fillsBest 81 = .ok (.aload_n 0, 1) := by decide +kernel
theorem dX12_fillsBest_82 : decode cX12_fillsBest 82 = .ok (.getfield 128, 3) := by decide +kernel
theorem dX12_fillsBest_85 : decode cX12_fillsBest 85 = .ok (.bipush 12, 2) := by decide +kernel
theorem dX12_fillsBest_87 : decode cX12_fillsBest 87 = .ok (.iload 5, 2) := by decide +kernel
theorem dX12_fillsBest_89 : decode cX12_fillsBest 89 = .ok (.iadd, 1) := by decide +kernel
theorem dX12_fillsBest_90 : decode cX12_fillsBest 90 = .ok (.iaload, 1) := by decide +kernel
theorem dX12_fillsBest_91 : decode cX12_fillsBest 91 = .ok (.iconst 1, 1) := by decide +kernel
theorem dX12_fillsBest_92 : decode cX12_fillsBest 92 = .ok (.if_icmp .ne 6, 3) := by decide +kernel
theorem dX12_fillsBest_95 : decode cX12_fillsBest 95 = .ok (.goto 36, 3) := by decide +kernel
theorem dX12_fillsBest_98 : decode cX12_fillsBest 98 = .ok (.aload_n 0, 1) := by decide +kernel
theorem dX12_fillsBest_99 : decode cX12_fillsBest 99 = .ok (.getfield 128, 3) := by decide +kernel
theorem dX12_fillsBest_102 : decode cX12_fillsBest 102 = .ok (.iload 5, 2) := by decide +kernel
theorem dX12_fillsBest_104 : decode cX12_fillsBest 104 = .ok (.iload 4, 2) := by decide +kernel
theorem dX12_fillsBest_106 : decode cX12_fillsBest 106 = .ok (.aload_n 0, 1) := by decide +kernel
theorem dX12_fillsBest_107 : decode cX12_fillsBest 107 = .ok (.getfield 46, 3) := by decide +kernel
theorem dX12_fillsBest_110 : decode cX12_fillsBest 110 = .ok (.aload_n 0, 1) := by decide +kernel
theorem dX12_fillsBest_111 : decode cX12_fillsBest 111 = .ok (.getfield 251, 3) := by decide +kernel
theorem dX12_fillsBest_114 : decode cX12_fillsBest 114 = .ok (.iaload, 1) := by decide +kernel
theorem dX12_fillsBest_115 : decode cX12_fillsBest 115 = .ok (.irem, 1) := by decide +kernel
theorem dX12_fillsBest_116 : decode cX12_fillsBest 116 = .ok (.iastore, 1) := by decide +kernel
theorem dX12_fillsBest_117 : decode cX12_fillsBest 117 = .ok (.iload 4, 2) := by decide +kernel
theorem dX12_fillsBest_119 : decode cX12_fillsBest 119 = .ok (.aload_n 0, 1) := by decide +kernel
theorem dX12_fillsBest_120 : decode cX12_fillsBest 120 = .ok (.getfield 46, 3) := by decide +kernel
theorem dX12_fillsBest_123 : decode cX12_fillsBest 123 = .ok (.aload_n 0, 1) := by decide +kernel
theorem dX12_fillsBest_124 : decode cX12_fillsBest 124 = .ok (.getfield 251, 3) := by decide +kernel
theorem dX12_fillsBest_127 : decode cX12_fillsBest 127 = .ok (.iaload, 1) := by decide +kernel
theorem dX12_fillsBest_128 : decode cX12_fillsBest 128 = .ok (.idiv, 1) := by decide +kernel
theorem dX12_fillsBest_129 : decode cX12_fillsBest 129 = .ok (.istore 4, 2) := by decide +kernel
theorem dX12_fillsBest_131 : decode cX12_fillsBest 131 = .ok (.iinc 5 (-1), 3) := by decide +kernel
theorem dX12_fillsBest_134 : decode cX12_fillsBest 134 = .ok (.goto (-58), 3) := by decide +kernel
theorem dX12_fillsBest_137 : decode cX12_fillsBest 137 = .ok (.aload_n 0, 1) := by decide +kernel
theorem dX12_fillsBest_138 : decode cX12_fillsBest 138 = .ok (.invokevirtual 432, 3) := by decide +kernel
theorem dX12_fillsBest_141 : decode cX12_fillsBest 141 = .ok (.invokestatic 435, 3) := by decide +kernel
theorem dX12_fillsBest_144 : decode cX12_fillsBest 144 = .ok (.istore 5, 2) := by decide +kernel
theorem dX12_fillsBest_146 : decode cX12_fillsBest 146 = .ok (.iload 5, 2) := by decide +kernel
theorem dX12_fillsBest_148 : decode cX12_fillsBest 148 = .ok (.iload_n 2, 1) := by decide +kernel
theorem dX12_fillsBest_149 : decode cX12_fillsBest 149 = .ok (.if_icmp .gt 6, 3) := by decide +kernel
theorem dX12_fillsBest_152 : decode cX12_fillsBest 152 = .ok (.goto 62, 3) := by decide +kernel
theorem dX12_fillsBest_155 : decode cX12_fillsBest 155 = .ok (.iload 5, 2) := by decide +kernel
theorem dX12_fillsBest_157 : decode cX12_fillsBest 157 = .ok (.istore_n 2, 1) := by decide +kernel
theorem dX12_fillsBest_158 : decode cX12_fillsBest 158 = .ok (.iconst 0, 1) := by decide +kernel
theorem dX12_fillsBest_159 : decode cX12_fillsBest 159 = .ok (.istore 6, 2) := by decide +kernel
theorem dX12_fillsBest_161 : decode cX12_fillsBest 161 = .ok (.iload 6, 2) := by decide +kernel
theorem dX12_fillsBest_163 : decode cX12_fillsBest 163 = .ok (.aload_n 0, 1) := by decide +kernel
theorem dX12_fillsBest_164 : decode cX12_fillsBest 164 = .ok (.getfield 61, 3) := by decide +kernel
theorem dX12_fillsBest_167 : decode cX12_fillsBest 167 = .ok (.aload_n 0, 1) := by decide +kernel
theorem dX12_fillsBest_168 : decode cX12_fillsBest 168 = .ok (.getfield 251, 3) := by decide +kernel
theorem dX12_fillsBest_171 : decode cX12_fillsBest 171 = .ok (.iaload, 1) := by decide +kernel
theorem dX12_fillsBest_172 : decode cX12_fillsBest 172 = .ok (.if_icmp .ge 42, 3) := by decide +kernel
theorem dX12_fillsBest_175 : decode cX12_fillsBest 175 = .ok (.aload_n 0, 1) := by decide +kernel
theorem dX12_fillsBest_176 : decode cX12_fillsBest 176 = .ok (.getfield 143, 3) := by decide +kernel
theorem dX12_fillsBest_179 : decode cX12_fillsBest 179 = .ok (.iload 6, 2) := by decide +kernel
theorem dX12_fillsBest_181 : decode cX12_fillsBest 181 = .ok (.aload_n 0, 1) := by decide +kernel
theorem dX12_fillsBest_182 : decode cX12_fillsBest 182 = .ok (.getfield 128, 3) := by decide +kernel
theorem dX12_fillsBest_185 : decode cX12_fillsBest 185 = .ok (.bipush 12, 2) := by decide +kernel
theorem dX12_fillsBest_187 : decode cX12_fillsBest 187 = .ok (.iload 6, 2) := by decide +kernel
theorem dX12_fillsBest_189 : decode cX12_fillsBest 189 = .ok (.iadd, 1) := by decide +kernel
theorem dX12_fillsBest_190 : decode cX12_fillsBest 190 = .ok (.iaload, 1) := by decide +kernel
theorem dX12_fillsBest_191 : decode cX12_fillsBest 191 = .ok (.iconst 1, 1) := by decide +kernel
theorem dX12_fillsBest_192 : decode cX12_fillsBest 192 = .ok (.if_icmp .ne 8, 3) := by decide +kernel
theorem dX12_fillsBest_195 : decode cX12_fillsBest 195 = .ok (.bipush (-2), 2) := by decide +kernel
theorem dX12_fillsBest_197 : decode cX12_fillsBest 197 = .ok (.goto 10, 3) := by decide +kernel
theorem dX12_fillsBest_200 : decode cX12_fillsBest 200 = .ok (.aload_n 0, 1) := by decide +kernel
theorem dX12_fillsBest_201 : decode cX12_fillsBest 201 = .ok (.getfield 128, 3) := by decide +kernel
theorem dX12_fillsBest_204 : decode cX12_fillsBest 204 = .ok (.iload 6, 2) := by decide +kernel
theorem dX12_fillsBest_206 : decode cX12_fillsBest 206 = .ok (.iaload, 1) := by decide +kernel
theorem dX12_fillsBest_207 : decode cX12_fillsBest 207 = .ok (.iastore, 1) := by decide +kernel
theorem dX12_fillsBest_208 : decode cX12_fillsBest 208 = .ok (.iinc 6 1, 3) := by decide +kernel
theorem dX12_fillsBest_211 : decode cX12_fillsBest 211 = .ok (.goto (-50), 3) := by decide +kernel
theorem dX12_fillsBest_214 : decode cX12_fillsBest 214 = .ok (.iinc 3 1, 3) := by decide +kernel
theorem dX12_fillsBest_217 : decode cX12_fillsBest 217 = .ok (.goto (-162), 3) := by decide +kernel
theorem dX12_fillsBest_220 : decode cX12_fillsBest 220 = .ok (.iload_n 2, 1) := by decide +kernel
theorem dX12_fillsBest_221 : decode cX12_fillsBest 221 = .ok (.ireturn, 1) := by decide +kernel
theorem dX12_best_0 : decode cX12_best 0 = .ok (.iload_n 1, 1) := by decide +kernel
theorem dX12_best_1 : decode cX12_best 1 = .ok (.iconst (-1), 1) := by decide +kernel
theorem dX12_best_2 : decode cX12_best 2 = .ok (.if_icmp .eq 13, 3) := by decide +kernel
theorem dX12_best_5 : decode cX12_best 5 = .ok (.aload_n 0, 1) := by decide +kernel
theorem dX12_best_6 : decode cX12_best 6 = .ok (.iload_n 1, 1) := by decide +kernel
theorem dX12_best_7 : decode cX12_best 7 = .ok (.invokevirtual 338, 3) := by decide +kernel
theorem dX12_best_10 : decode cX12_best 10 = .ok (.ifCond .ne 5, 3) := by decide +kernel
theorem dX12_best_13 : decode cX12_best 13 = .ok (.iconst (-1), 1) := by decide +kernel
theorem dX12_best_14 : decode cX12_best 14 = .ok (.ireturn, 1) := by decide +kernel
theorem dX12_best_15 : decode cX12_best 15 = .ok (.aload_n 0, 1) := by decide +kernel
theorem dX12_best_16 : decode cX12_best 16 = .ok (.invokevirtual 438, 3) := by decide +kernel
theorem dX12_best_19 : decode cX12_best 19 = .ok (.istore_n 2, 1) := by decide +kernel
theorem dX12_best_20 : decode cX12_best 20 = .ok (.iload_n 1, 1) := by decide +kernel
theorem dX12_best_21 : decode cX12_best 21 = .ok (.iconst (-1), 1) := by decide +kernel
theorem dX12_best_22 : decode cX12_best 22 = .ok (.if_icmp .ne 7, 3) := by decide +kernel
theorem dX12_best_25 : decode cX12_best 25 = .ok (.iload_n 2, 1) := by decide +kernel
theorem dX12_best_26 : decode cX12_best 26 = .ok (.goto 9, 3) := by decide +kernel
theorem dX12_best_29 : decode cX12_best 29 = .ok (.aload_n 0, 1) := by decide +kernel
theorem dX12_best_30 : decode cX12_best 30 = .ok (.getfield 143, 3) := by decide +kernel
theorem dX12_best_33 : decode cX12_best 33 = .ok (.iload_n 1, 1) := by decide +kernel
theorem dX12_best_34 : decode cX12_best 34 = .ok (.iaload, 1) := by decide +kernel
theorem dX12_best_35 : decode cX12_best 35 = .ok (.ireturn, 1) := by decide +kernel
theorem dX12_glowBy_0 : decode cX12_glowBy 0 = .ok (.aload_n 0, 1) := by decide +kernel
theorem dX12_glowBy_1 : decode cX12_glowBy 1 = .ok (.getfield 128, 3) := by decide +kernel
theorem dX12_glowBy_4 : decode cX12_glowBy 4 = .ok (.bipush 6, 2) := by decide +kernel
theorem dX12_glowBy_6 : decode cX12_glowBy 6 = .ok (.iload_n 1, 1) := by decide +kernel
theorem dX12_glowBy_7 : decode cX12_glowBy 7 = .ok (.iadd, 1) := by decide +kernel
theorem dX12_glowBy_8 : decode cX12_glowBy 8 = .ok (.iaload, 1) := by decide +kernel
theorem dX12_glowBy_9 : decode cX12_glowBy 9 = .ok (.aload_n 0, 1) := by decide +kernel
theorem dX12_glowBy_10 : decode cX12_glowBy 10 = .ok (.iload_n 1, 1) := by decide +kernel
theorem dX12_glowBy_11 : decode cX12_glowBy 11 = .ok (.iload_n 2, 1) := by decide +kernel
theorem dX12_glowBy_12 : decode cX12_glowBy 12 = .ok (.invokevirtual 370, 3) := by decide +kernel
theorem dX12_glowBy_15 : decode cX12_glowBy 15 = .ok (.iadd, 1) := by decide +kernel
theorem dX12_glowBy_16 : decode cX12_glowBy 16 = .ok (.iconst 0, 1) := by decide +kernel
theorem dX12_glowBy_17 : decode cX12_glowBy 17 = .ok (.sipush 999, 3) := by decide +kernel
theorem dX12_glowBy_20 : decode cX12_glowBy 20 = .ok (.invokestatic 367, 3) := by decide +kernel
theorem dX12_glowBy_23 : decode cX12_glowBy 23 = .ok (.ireturn, 1) := by decide +kernel
theorem dX12_telling_0 : decode cX12_telling 0 = .ok (.aload_n 0, 1) := by decide +kernel
theorem dX12_telling_1 : decode cX12_telling 1 = .ok (.iload_n 1, 1) := by decide +kernel
theorem dX12_telling_2 : decode cX12_telling 2 = .ok (.invokevirtual 338, 3) := by decide +kernel
theorem dX12_telling_5 : decode cX12_telling 5 = .ok (.ifCond .eq 12, 3) := by decide +kernel
theorem dX12_telling_8 : decode cX12_telling 8 = .ok (.iload_n 2, 1) := by decide +kernel
theorem dX12_telling_9 : decode cX12_telling 9 = .ok (.iconst 0, 1) := by decide +kernel
theorem dX12_telling_10 : decode cX12_telling 10 = .ok (.iconst 1, 1) := by decide +kernel
theorem dX12_telling_11 : decode cX12_telling 11 = .ok (.invokestatic 334, 3) := by decide +kernel
theorem dX12_telling_14 : decode cX12_telling 14 = .ok (.ifCond .ne 5, 3) := by decide +kernel
theorem dX12_telling_17 : decode cX12_telling 17 = .ok (.iconst (-1), 1) := by decide +kernel
theorem dX12_telling_18 : decode cX12_telling 18 = .ok (.ireturn, 1) := by decide +kernel
theorem dX12_telling_19 : decode cX12_telling 19 = .ok (.aload_n 0, 1) := by decide +kernel
theorem dX12_telling_20 : decode cX12_telling 20 = .ok (.iload_n 1, 1) := by decide +kernel
theorem dX12_telling_21 : decode cX12_telling 21 = .ok (.invokevirtual 420, 3) := by decide +kernel
theorem dX12_telling_24 : decode cX12_telling 24 = .ok (.ifCond .ne 6, 3) := by decide +kernel
theorem dX12_telling_27 : decode cX12_telling 27 = .ok (.bipush (-2), 2) := by decide +kernel
theorem dX12_telling_29 : decode cX12_telling 29 = .ok (.ireturn, 1) := by decide +kernel
theorem dX12_telling_30 : decode cX12_telling 30 = .ok (.aload_n 0, 1) := by decide +kernel
theorem dX12_telling_31 : decode cX12_telling 31 = .ok (.invokevirtual 347, 3) := by decide +kernel
theorem dX12_telling_34 : decode cX12_telling 34 = .ok (.bipush (-2), 2) := by decide +kernel
theorem dX12_telling_36 : decode cX12_telling 36 = .ok (.istore_n 3, 1) := by decide +kernel
theorem dX12_telling_37 : decode cX12_telling 37 = .ok (.iconst 0, 1) := by decide +kernel
theorem dX12_telling_38 : decode cX12_telling 38 = .ok (.istore 4, 2) := by decide +kernel
theorem dX12_telling_40 : decode cX12_telling 40 = .ok (.iload 4, 2) := by decide +kernel

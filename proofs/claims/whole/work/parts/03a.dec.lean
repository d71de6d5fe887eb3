-- decode rows, by program (wip/whole/gen/emit_names.py)
theorem dX0_init_0 : decode cX0_init 0 = .ok (.aload_n 0, 1) := by decide +kernel
theorem dX0_init_1 : decode cX0_init 1 = .ok (.invokespecial 3, 3) := by decide +kernel
theorem dX0_init_4 : decode cX0_init 4 = .ok (.aload_n 0, 1) := by decide +kernel
theorem dX0_init_5 : decode cX0_init 5 = .ok (.new 9, 3) := by decide +kernel
theorem dX0_init_8 : decode cX0_init 8 = .ok (.dup, 1) := by decide +kernel
theorem dX0_init_9 : decode cX0_init 9 = .ok (.invokespecial 11, 3) := by decide +kernel
theorem dX0_init_12 : decode cX0_init 12 = .ok (.putfield 12, 3) := by decide +kernel
theorem dX0_init_15 : decode cX0_init 15 = .ok (.aload_n 0, 1) := by decide +kernel
theorem dX0_init_16 : decode cX0_init 16 = .ok (.new 18, 3) := by decide +kernel
theorem dX0_init_19 : decode cX0_init 19 = .ok (.dup, 1) := by decide +kernel
theorem dX0_init_20 : decode cX0_init 20 = .ok (.aload_n 1, 1) := by decide +kernel
theorem dX0_init_21 : decode cX0_init 21 = .ok (.invokespecial 20, 3) := by decide +kernel
theorem dX0_init_24 : decode cX0_init 24 = .ok (.putfield 23, 3) := by decide +kernel
theorem dX0_init_27 : decode cX0_init 27 = .ok (.return_, 1) := by decide +kernel
theorem dX0_isDraughty_0 : decode cX0_isDraughty 0 = .ok (.bipush 100, 2) := by decide +kernel
theorem dX0_isDraughty_2 : decode cX0_isDraughty 2 = .ok (.iload_n 2, 1) := by decide +kernel
theorem dX0_isDraughty_3 : decode cX0_isDraughty 3 = .ok (.iconst 4, 1) := by decide +kernel
theorem dX0_isDraughty_4 : decode cX0_isDraughty 4 = .ok (.iload_n 1, 1) := by decide +kernel
theorem dX0_isDraughty_5 : decode cX0_isDraughty 5 = .ok (.imul, 1) := by decide +kernel
theorem dX0_isDraughty_6 : decode cX0_isDraughty 6 = .ok (.invokestatic 27, 3) := by decide +kernel
theorem dX0_isDraughty_9 : decode cX0_isDraughty 9 = .ok (.aload_n 0, 1) := by decide +kernel
theorem dX0_isDraughty_10 : decode cX0_isDraughty 10 = .ok (.getfield 31, 3) := by decide +kernel
theorem dX0_isDraughty_13 : decode cX0_isDraughty 13 = .ok (.if_icmp .ge 7, 3) := by decide +kernel
theorem dX0_isDraughty_16 : decode cX0_isDraughty 16 = .ok (.iconst 1, 1) := by decide +kernel
theorem dX0_isDraughty_17 : decode cX0_isDraughty 17 = .ok (.goto 4, 3) := by decide +kernel
theorem dX0_isDraughty_20 : decode cX0_isDraughty 20 = .ok (.iconst 0, 1) := by decide +kernel
theorem dX0_isDraughty_21 : decode cX0_isDraughty 21 = .ok (.ireturn, 1) := by decide +kernel
theorem dX0_passHours_0 : decode cX0_passHours 0 = .ok (.iconst 0, 1) := by decide +kernel
theorem dX0_passHours_1 : decode cX0_passHours 1 = .ok (.istore 5, 2) := by decide +kernel
theorem dX0_passHours_3 : decode cX0_passHours 3 = .ok (.iload 5, 2) := by decide +kernel
theorem dX0_passHours_5 : decode cX0_passHours 5 = .ok (.iload_n 2, 1) := by decide +kernel
theorem dX0_passHours_6 : decode cX0_passHours 6 = .ok (.if_icmp .ge 28, 3) := by decide +kernel
theorem dX0_passHours_9 : decode cX0_passHours 9 = .ok (.aload_n 0, 1) := by decide +kernel
theorem dX0_passHours_10 : decode cX0_passHours 10 = .ok (.aload_n 1, 1) := by decide +kernel
theorem dX0_passHours_11 : decode cX0_passHours 11 = .ok (.iload 4, 2) := by decide +kernel
theorem dX0_passHours_13 : decode cX0_passHours 13 = .ok (.ifCond .eq 11, 3) := by decide +kernel
theorem dX0_passHours_16 : decode cX0_passHours 16 = .ok (.aload_n 1, 1) := by decide +kernel
theorem dX0_passHours_17 : decode cX0_passHours 17 = .ok (.iload_n 3, 1) := by decide +kernel
theorem dX0_passHours_18 : decode cX0_passHours 18 = .ok (.invokestatic 37, 3) := by decide +kernel
theorem dX0_passHours_21 : decode cX0_passHours 21 = .ok (.goto 4, 3) := by decide +kernel
theorem dX0_passHours_24 : decode cX0_passHours 24 = .ok (.iconst (-1), 1) := by decide +kernel
theorem dX0_passHours_25 : decode cX0_passHours 25 = .ok (.invokevirtual 41, 3) := by decide +kernel
theorem dX0_passHours_28 : decode cX0_passHours 28 = .ok (.iinc 5 1, 3) := by decide +kernel
theorem dX0_passHours_31 : decode cX0_passHours 31 = .ok (.goto (-28), 3) := by decide +kernel
theorem dX0_passHours_34 : decode cX0_passHours 34 = .ok (.return_, 1) := by decide +kernel
theorem dX0_nightIn_0 : decode cX0_nightIn 0 = .ok (.aload_n 0, 1) := by decide +kernel
theorem dX0_nightIn_1 : decode cX0_nightIn 1 = .ok (.getfield 23, 3) := by decide +kernel
theorem dX0_nightIn_4 : decode cX0_nightIn 4 = .ok (.aload_n 1, 1) := by decide +kernel
theorem dX0_nightIn_5 : decode cX0_nightIn 5 = .ok (.invokevirtual 45, 3) := by decide +kernel
theorem dX0_nightIn_8 : decode cX0_nightIn 8 = .ok (.aload_n 0, 1) := by decide +kernel
theorem dX0_nightIn_9 : decode cX0_nightIn 9 = .ok (.aload_n 0, 1) := by decide +kernel
theorem dX0_nightIn_10 : decode cX0_nightIn 10 = .ok (.getfield 23, 3) := by decide +kernel
theorem dX0_nightIn_13 : decode cX0_nightIn 13 = .ok (.iload_n 2, 1) := by decide +kernel
theorem dX0_nightIn_14 : decode cX0_nightIn 14 = .ok (.iload_n 3, 1) := by decide +kernel
theorem dX0_nightIn_15 : decode cX0_nightIn 15 = .ok (.iconst 1, 1) := by decide +kernel
theorem dX0_nightIn_16 : decode cX0_nightIn 16 = .ok (.invokevirtual 49, 3) := by decide +kernel
theorem dX0_nightIn_19 : decode cX0_nightIn 19 = .ok (.aload_n 0, 1) := by decide +kernel
theorem dX0_nightIn_20 : decode cX0_nightIn 20 = .ok (.getfield 23, 3) := by decide +kernel
theorem dX0_nightIn_23 : decode cX0_nightIn 23 = .ok (.areturn, 1) := by decide +kernel
theorem dX0_hoursTillDark_0 : decode cX0_hoursTillDark 0 = .ok (.aload_n 0, 1) := by decide +kernel
theorem dX0_hoursTillDark_1 : decode cX0_hoursTillDark 1 = .ok (.getfield 23, 3) := by decide +kernel
theorem dX0_hoursTillDark_4 : decode cX0_hoursTillDark 4 = .ok (.aload_n 1, 1) := by decide +kernel
theorem dX0_hoursTillDark_5 : decode cX0_hoursTillDark 5 = .ok (.invokevirtual 45, 3) := by decide +kernel
theorem dX0_hoursTillDark_8 : decode cX0_hoursTillDark 8 = .ok (.iconst 0, 1) := by decide +kernel
theorem dX0_hoursTillDark_9 : decode cX0_hoursTillDark 9 = .ok (.istore_n 3, 1) := by decide +kernel
theorem dX0_hoursTillDark_10 : decode cX0_hoursTillDark 10 = .ok (.iload_n 3, 1) := by decide +kernel
theorem dX0_hoursTillDark_11 : decode cX0_hoursTillDark 11 = .ok (.bipush 100, 2) := by decide +kernel
theorem dX0_hoursTillDark_13 : decode cX0_hoursTillDark 13 = .ok (.if_icmp .gt 33, 3) := by decide +kernel
theorem dX0_hoursTillDark_16 : decode cX0_hoursTillDark 16 = .ok (.aload_n 0, 1) := by decide +kernel
theorem dX0_hoursTillDark_17 : decode cX0_hoursTillDark 17 = .ok (.getfield 23, 3) := by decide +kernel
theorem dX0_hoursTillDark_20 : decode cX0_hoursTillDark 20 = .ok (.iload_n 2, 1) := by decide +kernel
theorem dX0_hoursTillDark_21 : decode cX0_hoursTillDark 21 = .ok (.invokevirtual 53, 3) := by decide +kernel
theorem dX0_hoursTillDark_24 : decode cX0_hoursTillDark 24 = .ok (.ifCond .ne 5, 3) := by decide +kernel
theorem dX0_hoursTillDark_27 : decode cX0_hoursTillDark 27 = .ok (.iload_n 3, 1) := by decide +kernel
theorem dX0_hoursTillDark_28 : decode cX0_hoursTillDark 28 = .ok (.ireturn, 1) := by decide +kernel
theorem dX0_hoursTillDark_29 : decode cX0_hoursTillDark 29 = .ok (.aload_n 0, 1) := by decide +kernel
theorem dX0_hoursTillDark_30 : decode cX0_hoursTillDark 30 = .ok (.aload_n 0, 1) := by decide +kernel
theorem dX0_hoursTillDark_31 : decode cX0_hoursTillDark 31 = .ok (.getfield 23, 3) := by decide +kernel
theorem dX0_hoursTillDark_34 : decode cX0_hoursTillDark 34 = .ok (.iconst 1, 1) := by decide +kernel
theorem dX0_hoursTillDark_35 : decode cX0_hoursTillDark 35 = .ok (.iconst 0, 1) := by decide +kernel
theorem dX0_hoursTillDark_36 : decode cX0_hoursTillDark 36 = .ok (.iconst 0, 1) := by decide +kernel
theorem dX0_hoursTillDark_37 : decode cX0_hoursTillDark 37 = .ok (.invokevirtual 49, 3) := by decide +kernel
theorem dX0_hoursTillDark_40 : decode cX0_hoursTillDark 40 = .ok (.iinc 3 1, 3) := by decide +kernel
theorem dX0_hoursTillDark_43 : decode cX0_hoursTillDark 43 = .ok (.goto (-33), 3) := by decide +kernel
theorem dX0_hoursTillDark_46 : decode cX0_hoursTillDark 46 = .ok (.bipush (-2), 2) := by decide +kernel
theorem dX0_hoursTillDark_48 : decode cX0_hoursTillDark 48 = .ok (.ireturn, 1) := by decide +kernel
theorem dX0_passHour_0 : decode cX0_passHour 0 = .ok (.iconst 0, 1) := by decide +kernel
theorem dX0_passHour_1 : decode cX0_passHour 1 = .ok (.istore_n 3, 1) := by decide +kernel
theorem dX0_passHour_2 : decode cX0_passHour 2 = .ok (.iload_n 3, 1) := by decide +kernel
theorem dX0_passHour_3 : decode cX0_passHour 3 = .ok (.aload_n 1, 1) := by decide +kernel
theorem dX0_passHour_4 : decode cX0_passHour 4 = .ok (.getfield 57, 3) := by decide +kernel
theorem dX0_passHour_7 : decode cX0_passHour 7 = .ok (.getfield 61, 3) := by decide +kernel
theorem dX0_passHour_10 : decode cX0_passHour 10 = .ok (.if_icmp .ge 103, 3) := by decide +kernel
theorem dX0_passHour_13 : decode cX0_passHour 13 = .ok (.aload_n 1, 1) := by decide +kernel
theorem dX0_passHour_14 : decode cX0_passHour 14 = .ok (.iload_n 3, 1) := by decide +kernel
theorem dX0_passHour_15 : decode cX0_passHour 15 = .ok (.invokevirtual 64, 3) := by decide +kernel
theorem dX0_passHour_18 : decode cX0_passHour 18 = .ok (.ifCond .eq 6, 3) := by decide +kernel
theorem dX0_passHour_21 : decode cX0_passHour 21 = .ok (.goto 86, 3) := by decide +kernel
theorem dX0_passHour_24 : decode cX0_passHour 24 = .ok (.aload_n 0, 1) := by decide +kernel
theorem dX0_passHour_25 : decode cX0_passHour 25 = .ok (.getfield 12, 3) := by decide +kernel
theorem dX0_passHour_28 : decode cX0_passHour 28 = .ok (.aload_n 1, 1) := by decide +kernel
theorem dX0_passHour_29 : decode cX0_passHour 29 = .ok (.iload_n 3, 1) := by decide +kernel
theorem dX0_passHour_30 : decode cX0_passHour 30 = .ok (.invokevirtual 67, 3) := by decide +kernel
theorem dX0_passHour_33 : decode cX0_passHour 33 = .ok (.istore 4, 2) := by decide +kernel
theorem dX0_passHour_35 : decode cX0_passHour 35 = .ok (.iconst 0, 1) := by decide +kernel
theorem dX0_passHour_36 : decode cX0_passHour 36 = .ok (.aload_n 1, 1) := by decide +kernel
theorem dX0_passHour_37 : decode cX0_passHour 37 = .ok (.getfield 71, 3) := by decide +kernel
theorem dX0_passHour_40 : decode cX0_passHour 40 = .ok (.iload_n 3, 1) := by decide +kernel
theorem dX0_passHour_41 : decode cX0_passHour 41 = .ok (.iaload, 1) := by decide +kernel
theorem dX0_passHour_42 : decode cX0_passHour 42 = .ok (.aload_n 0, 1) := by decide +kernel
theorem dX0_passHour_43 : decode cX0_passHour 43 = .ok (.getfield 12, 3) := by decide +kernel
theorem dX0_passHour_46 : decode cX0_passHour 46 = .ok (.aload_n 1, 1) := by decide +kernel
theorem dX0_passHour_47 : decode cX0_passHour 47 = .ok (.iload_n 3, 1) := by decide +kernel
theorem dX0_passHour_48 : decode cX0_passHour 48 = .ok (.invokevirtual 75, 3) := by decide +kernel
theorem dX0_passHour_51 : decode cX0_passHour 51 = .ok (.isub, 1) := by decide +kernel
theorem dX0_passHour_52 : decode cX0_passHour 52 = .ok (.invokestatic 78, 3) := by decide +kernel
theorem dX0_passHour_55 : decode cX0_passHour 55 = .ok (.istore 5, 2) := by decide +kernel
theorem dX0_passHour_57 : decode cX0_passHour 57 = .ok (.aload_n 1, 1) := by decide +kernel
theorem dX0_passHour_58 : decode cX0_passHour 58 = .ok (.getfield 84, 3) := by decide +kernel
theorem dX0_passHour_61 : decode cX0_passHour 61 = .ok (.iload_n 3, 1) := by decide +kernel
theorem dX0_passHour_62 : decode cX0_passHour 62 = .ok (.iaload, 1) := by decide +kernel
theorem dX0_passHour_63 : decode cX0_passHour 63 = .ok (.iload_n 2, 1) := by decide +kernel
theorem dX0_passHour_64 : decode cX0_passHour 64 = .ok (.if_icmp .ne 9, 3) := by decide +kernel
theorem dX0_passHour_67 : decode cX0_passHour 67 = .ok (.iload 5, 2) := by decide +kernel
theorem dX0_passHour_69 : decode cX0_passHour 69 = .ok (.iconst 2, 1) := by decide +kernel
theorem dX0_passHour_70 : decode cX0_passHour 70 = .ok (.idiv, 1) := by decide +kernel
theorem dX0_passHour_71 : decode cX0_passHour 71 = .ok (.istore 5, 2) := by decide +kernel
theorem dX0_passHour_73 : decode cX0_passHour 73 = .ok (.aload_n 1, 1) := by decide +kernel
theorem dX0_passHour_74 : decode cX0_passHour 74 = .ok (.getfield 71, 3) := by decide +kernel
theorem dX0_passHour_77 : decode cX0_passHour 77 = .ok (.iload_n 3, 1) := by decide +kernel
theorem dX0_passHour_78 : decode cX0_passHour 78 = .ok (.iload 4, 2) := by decide +kernel
theorem dX0_passHour_80 : decode cX0_passHour 80 = .ok (.ifCond .eq 7, 3) := by decide +kernel
theorem dX0_passHour_83 : decode cX0_passHour 83 = .ok (.iconst 0, 1) := by decide +kernel
theorem dX0_passHour_84 : decode cX0_passHour 84 = .ok (.goto 5, 3) := by decide +kernel
theorem dX0_passHour_87 : decode cX0_passHour 87 = .ok (.iload 5, 2) := by decide +kernel
theorem dX0_passHour_89 : decode cX0_passHour 89 = .ok (.iastore, 1) := by decide +kernel
theorem dX0_passHour_90 : decode cX0_passHour 90 = .ok (.iload 4, 2) := by decide +kernel
theorem dX0_passHour_92 : decode cX0_passHour 92 = .ok (.ifCond .eq 15, 3) := by decide +kernel
theorem dX0_passHour_95 : decode cX0_passHour 95 = .ok (.aload_n 1, 1) := by decide +kernel
theorem dX0_passHour_96 : decode cX0_passHour 96 = .ok (.dup, 1) := by decide +kernel
theorem dX0_passHour_97 : decode cX0_passHour 97 = .ok (.getfield 87, 3) := by decide +kernel
theorem dX0_passHour_100 : decode cX0_passHour 100 = .ok (.iconst 1, 1) := by decide +kernel
theorem dX0_passHour_101 : decode cX0_passHour 101 = .ok (.iload_n 3, 1) := by decide +kernel
theorem dX0_passHour_102 : decode cX0_passHour 102 = .ok (.ishl, 1) := by decide +kernel
theorem dX0_passHour_103 : decode cX0_passHour 103 = .ok (.ior, 1) := by decide +kernel
theorem dX0_passHour_104 : decode cX0_passHour 104 = .ok (.putfield 87, 3) := by decide +kernel
theorem dX0_passHour_107 : decode cX0_passHour 107 = .ok (.iinc 3 1, 3) := by decide +kernel
theorem dX0_passHour_110 : decode cX0_passHour 110 = .ok (.goto (-108), 3) := by decide +kernel
theorem dX0_passHour_113 : decode cX0_passHour 113 = .ok (.aload_n 1, 1) := by decide +kernel
theorem dX0_passHour_114 : decode cX0_passHour 114 = .ok (.dup, 1) := by decide +kernel
theorem dX0_passHour_115 : decode cX0_passHour 115 = .ok (.getfield 90, 3) := by decide +kernel
theorem dX0_passHour_118 : decode cX0_passHour 118 = .ok (.iconst 1, 1) := by decide +kernel
theorem dX0_passHour_119 : decode cX0_passHour 119 = .ok (.iadd, 1) := by decide +kernel
theorem dX0_passHour_120 : decode cX0_passHour 120 = .ok (.putfield 90, 3) := by decide +kernel
theorem dX0_passHour_123 : decode cX0_passHour 123 = .ok (.return_, 1) := by decide +kernel
theorem dX0_chilledCorner_0 : decode cX0_chilledCorner 0 = .ok (.aload_n 0, 1) := by decide +kernel
theorem dX0_chilledCorner_1 : decode cX0_chilledCorner 1 = .ok (.getfield 57, 3) := by decide +kernel
theorem dX0_chilledCorner_4 : decode cX0_chilledCorner 4 = .ok (.getfield 93, 3) := by decide +kernel
theorem dX0_chilledCorner_7 : decode cX0_chilledCorner 7 = .ok (.ifCond .eq 18, 3) := by decide +kernel
theorem dX0_chilledCorner_10 : decode cX0_chilledCorner 10 = .ok (.aload_n 0, 1) := by decide +kernel
theorem dX0_chilledCorner_11 : decode cX0_chilledCorner 11 = .ok (.getfield 57, 3) := by decide +kernel
theorem dX0_chilledCorner_14 : decode cX0_chilledCorner 14 = .ok (.aload_n 0, 1) := by decide +kernel
theorem dX0_chilledCorner_15 : decode cX0_chilledCorner 15 = .ok (.getfield 90, 3) := by decide +kernel
theorem dX0_chilledCorner_18 : decode cX0_chilledCorner 18 = .ok (.iload_n 1, 1) := by decide +kernel
theorem dX0_chilledCorner_19 : decode cX0_chilledCorner 19 = .ok (.invokestatic 96, 3) := by decide +kernel
theorem dX0_chilledCorner_22 : decode cX0_chilledCorner 22 = .ok (.ifCond .ne 5, 3) := by decide +kernel
theorem dX0_chilledCorner_25 : decode cX0_chilledCorner 25 = .ok (.iconst (-1), 1) := by decide +kernel
theorem dX0_chilledCorner_26 : decode cX0_chilledCorner 26 = .ok (.ireturn, 1) := by decide +kernel
theorem dX0_chilledCorner_27 : decode cX0_chilledCorner 27 = .ok (.aload_n 0, 1) := by decide +kernel
theorem dX0_chilledCorner_28 : decode cX0_chilledCorner 28 = .ok (.getfield 57, 3) := by decide +kernel
theorem dX0_chilledCorner_31 : decode cX0_chilledCorner 31 = .ok (.getfield 93, 3) := by decide +kernel
theorem dX0_chilledCorner_34 : decode cX0_chilledCorner 34 = .ok (.iload_n 1, 1) := by decide +kernel
theorem dX0_chilledCorner_35 : decode cX0_chilledCorner 35 = .ok (.iconst 4, 1) := by decide +kernel
theorem dX0_chilledCorner_36 : decode cX0_chilledCorner 36 = .ok (.aload_n 0, 1) := by decide +kernel
theorem dX0_chilledCorner_37 : decode cX0_chilledCorner 37 = .ok (.getfield 90, 3) := by decide +kernel
theorem dX0_chilledCorner_40 : decode cX0_chilledCorner 40 = .ok (.imul, 1) := by decide +kernel
theorem dX0_chilledCorner_41 : decode cX0_chilledCorner 41 = .ok (.iconst 1, 1) := by decide +kernel
theorem dX0_chilledCorner_42 : decode cX0_chilledCorner 42 = .ok (.iadd, 1) := by decide +kernel
theorem dX0_chilledCorner_43 : decode cX0_chilledCorner 43 = .ok (.invokestatic 27, 3) := by decide +kernel
theorem dX0_chilledCorner_46 : decode cX0_chilledCorner 46 = .ok (.ireturn, 1) := by decide +kernel
theorem dX0_lot_0 : decode cX0_lot 0 = .ok (.iload_n 1, 1) := by decide +kernel
theorem dX0_lot_1 : decode cX0_lot 1 = .ok (.sipush 175, 3) := by decide +kernel
theorem dX0_lot_4 : decode cX0_lot 4 = .ok (.invokestatic 100, 3) := by decide +kernel
theorem dX0_lot_7 : decode cX0_lot 7 = .ok (.iload_n 2, 1) := by decide +kernel
theorem dX0_lot_8 : decode cX0_lot 8 = .ok (.invokestatic 100, 3) := by decide +kernel
theorem dX0_lot_11 : decode cX0_lot 11 = .ok (.istore_n 3, 1) := by decide +kernel
theorem dX0_lot_12 : decode cX0_lot 12 = .ok (.iload_n 0, 1) := by decide +kernel
theorem dX0_lot_13 : decode cX0_lot 13 = .ok (.ifCond .gt 7, 3) := by decide +kernel
theorem dX0_lot_16 : decode cX0_lot 16 = .ok (.iconst 0, 1) := by decide +kernel
theorem dX0_lot_17 : decode cX0_lot 17 = .ok (.goto 8, 3) := by decide +kernel
theorem dX0_lot_20 : decode cX0_lot 20 = .ok (.iload_n 3, 1) := by decide +kernel
theorem dX0_lot_21 : decode cX0_lot 21 = .ok (.iconst 1, 1) := by decide +kernel
theorem dX0_lot_22 : decode cX0_lot 22 = .ok (.iushr, 1) := by decide +kernel
theorem dX0_lot_23 : decode cX0_lot 23 = .ok (.iload_n 0, 1) := by decide +kernel
theorem dX0_lot_24 : decode cX0_lot 24 = .ok (.irem, 1) := by decide +kernel
theorem dX0_lot_25 : decode cX0_lot 25 = .ok (.ireturn, 1) := by decide +kernel
theorem dX0_stir_0 : decode cX0_stir 0 = .ok (.iload_n 0, 1) := by decide +kernel
theorem dX0_stir_1 : decode cX0_stir 1 = .ok (.iload_n 1, 1) := by decide +kernel
theorem dX0_stir_2 : decode cX0_stir 2 = .ok (.ixor, 1) := by decide +kernel
theorem dX0_stir_3 : decode cX0_stir 3 = .ok (.ldc 103, 2) := by decide +kernel
theorem dX0_stir_5 : decode cX0_stir 5 = .ok (.imul, 1) := by decide +kernel
theorem dX0_stir_6 : decode cX0_stir 6 = .ok (.sipush 12345, 3) := by decide +kernel
theorem dX0_stir_9 : decode cX0_stir 9 = .ok (.iadd, 1) := by decide +kernel
theorem dX0_stir_10 : decode cX0_stir 10 = .ok (.istore_n 2, 1) := by decide +kernel
theorem dX0_stir_11 : decode cX0_stir 11 = .ok (.iload_n 2, 1) := by decide +kernel
theorem dX0_stir_12 : decode cX0_stir 12 = .ok (.iload_n 2, 1) := by decide +kernel
theorem dX0_stir_13 : decode cX0_stir 13 = .ok (.bipush 15, 2) := by decide +kernel
theorem dX0_stir_15 : decode cX0_stir 15 = .ok (.iushr, 1) := by decide +kernel
theorem dX0_stir_16 : decode cX0_stir 16 = .ok (.ixor, 1) := by decide +kernel
theorem dX0_stir_17 : decode cX0_stir 17 = .ok (.ireturn, 1) := by decide +kernel
theorem dX1_init_0 : decode cX1_init 0 = .ok (.aload_n 0, 1) := by decide +kernel
theorem dX1_init_1 : decode cX1_init 1 = .ok (.invokespecial 3, 3) := by decide +kernel
theorem dX1_init_4 : decode cX1_init 4 = .ok (.aload_n 0, 1) := by decide +kernel
theorem dX1_init_5 : decode cX1_init 5 = .ok (.bipush 20, 2) := by decide +kernel
theorem dX1_init_7 : decode cX1_init 7 = .ok (.newarray .int, 2) := by decide +kernel
theorem dX1_init_9 : decode cX1_init 9 = .ok (.putfield 11, 3) := by decide +kernel
theorem dX1_init_12 : decode cX1_init 12 = .ok (.aload_n 0, 1) := by decide +kernel
theorem dX1_init_13 : decode cX1_init 13 = .ok (.bipush 20, 2) := by decide +kernel
theorem dX1_init_15 : decode cX1_init 15 = .ok (.newarray .int, 2) := by decide +kernel
theorem dX1_init_17 : decode cX1_init 17 = .ok (.putfield 15, 3) := by decide +kernel
theorem dX1_init_20 : decode cX1_init 20 = .ok (.aload_n 0, 1) := by decide +kernel
theorem dX1_init_21 : decode cX1_init 21 = .ok (.bipush 20, 2) := by decide +kernel
theorem dX1_init_23 : decode cX1_init 23 = .ok (.newarray .int, 2) := by decide +kernel
theorem dX1_init_25 : decode cX1_init 25 = .ok (.putfield 18, 3) := by decide +kernel
theorem dX1_init_28 : decode cX1_init 28 = .ok (.return_, 1) := by decide +kernel
theorem dX1_note_0 : decode cX1_note 0 = .ok (.aload_n 0, 1) := by decide +kernel
theorem dX1_note_1 : decode cX1_note 1 = .ok (.getfield 21, 3) := by decide +kernel
theorem dX1_note_4 : decode cX1_note 4 = .ok (.bipush 20, 2) := by decide +kernel
theorem dX1_note_6 : decode cX1_note 6 = .ok (.if_icmp .ge 51, 3) := by decide +kernel
theorem dX1_note_9 : decode cX1_note 9 = .ok (.aload_n 0, 1) := by decide +kernel
theorem dX1_note_10 : decode cX1_note 10 = .ok (.getfield 11, 3) := by decide +kernel
theorem dX1_note_13 : decode cX1_note 13 = .ok (.aload_n 0, 1) := by decide +kernel
theorem dX1_note_14 : decode cX1_note 14 = .ok (.getfield 21, 3) := by decide +kernel
theorem dX1_note_17 : decode cX1_note 17 = .ok (.iload_n 1, 1) := by decide +kernel
theorem dX1_note_18 : decode cX1_note 18 = .ok (.iastore, 1) := by decide +kernel
theorem dX1_note_19 : decode cX1_note 19 = .ok (.aload_n 0, 1) := by decide +kernel
theorem dX1_note_20 : decode cX1_note 20 = .ok (.getfield 15, 3) := by decide +kernel
theorem dX1_note_23 : decode cX1_note 23 = .ok (.aload_n 0, 1) := by decide +kernel
theorem dX1_note_24 : decode cX1_note 24 = .ok (.getfield 21, 3) := by decide +kernel
theorem dX1_note_27 : decode cX1_note 27 = .ok (.iload_n 2, 1) := by decide +kernel
theorem dX1_note_28 : decode cX1_note 28 = .ok (.iastore, 1) := by decide +kernel
theorem dX1_note_29 : decode cX1_note 29 = .ok (.aload_n 0, 1) := by decide +kernel
theorem dX1_note_30 : decode cX1_note 30 = .ok (.getfield 18, 3) := by decide +kernel
theorem dX1_note_33 : decode cX1_note 33 = .ok (.aload_n 0, 1) := by decide +kernel
theorem dX1_note_34 : decode cX1_note 34 = .ok (.getfield 21, 3) := by decide +kernel
theorem dX1_note_37 : decode cX1_note 37 = .ok (.iload_n 3, 1) := by decide +kernel
theorem dX1_note_38 : decode cX1_note 38 = .ok (.ifCond .eq 7, 3) := by decide +kernel
theorem dX1_note_41 : decode cX1_note 41 = .ok (.iconst 1, 1) := by decide +kernel
theorem dX1_note_42 : decode cX1_note 42 = .ok (.goto 4, 3) := by decide +kernel
theorem dX1_note_45 : decode cX1_note 45 = .ok (.iconst 0, 1) := by decide +kernel
theorem dX1_note_46 : decode cX1_note 46 = .ok (.iastore, 1) := by decide +kernel
theorem dX1_note_47 : decode cX1_note 47 = .ok (.aload_n 0, 1) := by decide +kernel
theorem dX1_note_48 : decode cX1_note 48 = .ok (.dup, 1) := by decide +kernel
theorem dX1_note_49 : decode cX1_note 49 = .ok (.getfield 21, 3) := by decide +kernel
theorem dX1_note_52 : decode cX1_note 52 = .ok (.iconst 1, 1) := by decide +kernel
theorem dX1_note_53 : decode cX1_note 53 = .ok (.iadd, 1) := by decide +kernel
theorem dX1_note_54 : decode cX1_note 54 = .ok (.putfield 21, 3) := by decide +kernel
theorem dX1_note_57 : decode cX1_note 57 = .ok (.return_, 1) := by decide +kernel
theorem dX1_fitting_0 : decode cX1_fitting 0 = .ok (.iconst 0, 1) := by decide +kernel
theorem dX1_fitting_1 : decode cX1_fitting 1 = .ok (.istore 4, 2) := by decide +kernel
theorem dX1_fitting_3 : decode cX1_fitting 3 = .ok (.iconst 0, 1) := by decide +kernel
theorem dX1_fitting_4 : decode cX1_fitting 4 = .ok (.istore 5, 2) := by decide +kernel
theorem dX1_fitting_6 : decode cX1_fitting 6 = .ok (.iload 5, 2) := by decide +kernel
theorem dX1_fitting_8 : decode cX1_fitting 8 = .ok (.aload_n 2, 1) := by decide +kernel
theorem dX1_fitting_9 : decode cX1_fitting 9 = .ok (.getfield 25, 3) := by decide +kernel
theorem dX1_fitting_12 : decode cX1_fitting 12 = .ok (.getfield 31, 3) := by decide +kernel
theorem dX1_fitting_15 : decode cX1_fitting 15 = .ok (.if_icmp .ge 30, 3) := by decide +kernel
theorem dX1_fitting_18 : decode cX1_fitting 18 = .ok (.aload_n 0, 1) := by decide +kernel
theorem dX1_fitting_19 : decode cX1_fitting 19 = .ok (.aload_n 1, 1) := by decide +kernel
theorem dX1_fitting_20 : decode cX1_fitting 20 = .ok (.aload_n 2, 1) := by decide +kernel
theorem dX1_fitting_21 : decode cX1_fitting 21 = .ok (.iload_n 3, 1) := by decide +kernel
theorem dX1_fitting_22 : decode cX1_fitting 22 = .ok (.iload 5, 2) := by decide +kernel
theorem dX1_fitting_24 : decode cX1_fitting 24 = .ok (.invokevirtual 36, 3) := by decide +kernel
theorem dX1_fitting_27 : decode cX1_fitting 27 = .ok (.ifCond .eq 12, 3) := by decide +kernel
theorem dX1_fitting_30 : decode cX1_fitting 30 = .ok (.iload 4, 2) := by decide +kernel
theorem dX1_fitting_32 : decode cX1_fitting 32 = .ok (.iconst 1, 1) := by decide +kernel
theorem dX1_fitting_33 : decode cX1_fitting 33 = .ok (.iload 5, 2) := by decide +kernel
theorem dX1_fitting_35 : decode cX1_fitting 35 = .ok (.ishl, 1) := by decide +kernel
theorem dX1_fitting_36 : decode cX1_fitting 36 = .ok (.ior, 1) := by decide +kernel
theorem dX1_fitting_37 : decode cX1_fitting 37 = .ok (.istore 4, 2) := by decide +kernel
theorem dX1_fitting_39 : decode cX1_fitting 39 = .ok (.iinc 5 1, 3) := by decide +kernel
theorem dX1_fitting_42 : decode cX1_fitting 42 = .ok (.goto (-36), 3) := by decide +kernel
theorem dX1_fitting_45 : decode cX1_fitting 45 = .ok (.iload 4, 2) := by decide +kernel
theorem dX1_fitting_47 : decode cX1_fitting 47 = .ok (.ireturn, 1) := by decide +kernel
theorem dX1_mostTelling_0 : decode cX1_mostTelling 0 = .ok (.bipush (-2), 2) := by decide +kernel
theorem dX1_mostTelling_2 : decode cX1_mostTelling 2 = .ok (.istore 4, 2) := by decide +kernel
theorem dX1_mostTelling_4 : decode cX1_mostTelling 4 = .ok (.bipush 6, 2) := by decide +kernel
theorem dX1_mostTelling_6 : decode cX1_mostTelling 6 = .ok (.istore 5, 2) := by decide +kernel
theorem dX1_mostTelling_8 : decode cX1_mostTelling 8 = .ok (.iconst 0, 1) := by decide +kernel
theorem dX1_mostTelling_9 : decode cX1_mostTelling 9 = .ok (.istore 6, 2) := by decide +kernel
theorem dX1_mostTelling_11 : decode cX1_mostTelling 11 = .ok (.iload 6, 2) := by decide +kernel
theorem dX1_mostTelling_13 : decode cX1_mostTelling 13 = .ok (.aload_n 1, 1) := by decide +kernel
theorem dX1_mostTelling_14 : decode cX1_mostTelling 14 = .ok (.getfield 25, 3) := by decide +kernel
theorem dX1_mostTelling_17 : decode cX1_mostTelling 17 = .ok (.getfield 40, 3) := by decide +kernel
theorem dX1_mostTelling_20 : decode cX1_mostTelling 20 = .ok (.if_icmp .ge 49, 3) := by decide +kernel
theorem dX1_mostTelling_23 : decode cX1_mostTelling 23 = .ok (.aload_n 1, 1) := by decide +kernel
theorem dX1_mostTelling_24 : decode cX1_mostTelling 24 = .ok (.iload 6, 2) := by decide +kernel
theorem dX1_mostTelling_26 : decode cX1_mostTelling 26 = .ok (.invokevirtual 43, 3) := by decide +kernel
theorem dX1_mostTelling_29 : decode cX1_mostTelling 29 = .ok (.ifCond .eq 8, 3) := by decide +kernel
theorem dX1_mostTelling_32 : decode cX1_mostTelling 32 = .ok (.iload 5, 2) := by decide +kernel
theorem dX1_mostTelling_34 : decode cX1_mostTelling 34 = .ok (.goto 12, 3) := by decide +kernel
theorem dX1_mostTelling_37 : decode cX1_mostTelling 37 = .ok (.aload_n 0, 1) := by decide +kernel
theorem dX1_mostTelling_38 : decode cX1_mostTelling 38 = .ok (.aload_n 1, 1) := by decide +kernel
theorem dX1_mostTelling_39 : decode cX1_mostTelling 39 = .ok (.iload_n 2, 1) := by decide +kernel
theorem dX1_mostTelling_40 : decode cX1_mostTelling 40 = .ok (.iload 6, 2) := by decide +kernel
theorem dX1_mostTelling_42 : decode cX1_mostTelling 42 = .ok (.iload_n 3, 1) := by decide +kernel
theorem dX1_mostTelling_43 : decode cX1_mostTelling 43 = .ok (.invokestatic 47, 3) := by decide +kernel
theorem dX1_mostTelling_46 : decode cX1_mostTelling 46 = .ok (.istore 7, 2) := by decide +kernel
theorem dX1_mostTelling_48 : decode cX1_mostTelling 48 = .ok (.iload 7, 2) := by decide +kernel
theorem dX1_mostTelling_50 : decode cX1_mostTelling 50 = .ok (.iload 5, 2) := by decide +kernel
theorem dX1_mostTelling_52 : decode cX1_mostTelling 52 = .ok (.if_icmp .ge 11, 3) := by decide +kernel
theorem dX1_mostTelling_55 : decode cX1_mostTelling 55 = .ok (.iload 7, 2) := by decide +kernel
theorem dX1_mostTelling_57 : decode cX1_mostTelling 57 = .ok (.istore 5, 2) := by decide +kernel
theorem dX1_mostTelling_59 : decode cX1_mostTelling 59 = .ok (.iload 6, 2) := by decide +kernel
theorem dX1_mostTelling_61 : decode cX1_mostTelling 61 = .ok (.istore 4, 2) := by decide +kernel
theorem dX1_mostTelling_63 : decode cX1_mostTelling 63 = .ok (.iinc 6 1, 3) := by decide +kernel
theorem dX1_mostTelling_66 : decode cX1_mostTelling 66 = .ok (.goto (-55), 3) := by decide +kernel
theorem dX1_mostTelling_69 : decode cX1_mostTelling 69 = .ok (.iload 4, 2) := by decide +kernel
theorem dX1_mostTelling_71 : decode cX1_mostTelling 71 = .ok (.ireturn, 1) := by decide +kernel
theorem dX1_isFitting_0 : decode cX1_isFitting 0 = .ok (.iconst 0, 1) := by decide +kernel
theorem dX1_isFitting_1 : decode cX1_isFitting 1 = .ok (.istore 5, 2) := by decide +kernel
theorem dX1_isFitting_3 : decode cX1_isFitting 3 = .ok (.iload 5, 2) := by decide +kernel
theorem dX1_isFitting_5 : decode cX1_isFitting 5 = .ok (.iload_n 3, 1) := by decide +kernel
theorem dX1_isFitting_6 : decode cX1_isFitting 6 = .ok (.if_icmp .ge 72, 3) := by decide +kernel
theorem dX1_isFitting_9 : decode cX1_isFitting 9 = .ok (.iload 5, 2) := by decide +kernel
theorem dX1_isFitting_11 : decode cX1_isFitting 11 = .ok (.aload_n 0, 1) := by decide +kernel
theorem dX1_isFitting_12 : decode cX1_isFitting 12 = .ok (.getfield 21, 3) := by decide +kernel
theorem dX1_isFitting_15 : decode cX1_isFitting 15 = .ok (.if_icmp .ge 63, 3) := by decide +kernel
theorem dX1_isFitting_18 : decode cX1_isFitting 18 = .ok (.aload_n 1, 1) := by decide +kernel
theorem dX1_isFitting_19 : decode cX1_isFitting 19 = .ok (.aload_n 2, 1) := by decide +kernel
theorem dX1_isFitting_20 : decode cX1_isFitting 20 = .ok (.aload_n 0, 1) := by decide +kernel
theorem dX1_isFitting_21 : decode cX1_isFitting 21 = .ok (.getfield 11, 3) := by decide +kernel
theorem dX1_isFitting_24 : decode cX1_isFitting 24 = .ok (.iload 5, 2) := by decide +kernel
theorem dX1_isFitting_26 : decode cX1_isFitting 26 = .ok (.iaload, 1) := by decide +kernel
theorem dX1_isFitting_27 : decode cX1_isFitting 27 = .ok (.iload 4, 2) := by decide +kernel
theorem dX1_isFitting_29 : decode cX1_isFitting 29 = .ok (.invokevirtual 51, 3) := by decide +kernel
theorem dX1_isFitting_32 : decode cX1_isFitting 32 = .ok (.aload_n 0, 1) := by decide +kernel
theorem dX1_isFitting_33 : decode cX1_isFitting 33 = .ok (.getfield 15, 3) := by decide +kernel
theorem dX1_isFitting_36 : decode cX1_isFitting 36 = .ok (.iload 5, 2) := by decide +kernel
theorem dX1_isFitting_38 : decode cX1_isFitting 38 = .ok (.iaload, 1) := by decide +kernel
theorem dX1_isFitting_39 : decode cX1_isFitting 39 = .ok (.if_icmp .lt 7, 3) := by decide +kernel
theorem dX1_isFitting_42 : decode cX1_isFitting 42 = .ok (.iconst 1, 1) := by decide +kernel
theorem dX1_isFitting_43 : decode cX1_isFitting 43 = .ok (.goto 4, 3) := by decide +kernel
theorem dX1_isFitting_46 : decode cX1_isFitting 46 = .ok (.iconst 0, 1) := by decide +kernel
theorem dX1_isFitting_47 : decode cX1_isFitting 47 = .ok (.istore 6, 2) := by decide +kernel
theorem dX1_isFitting_49 : decode cX1_isFitting 49 = .ok (.iload 6, 2) := by decide +kernel
theorem dX1_isFitting_51 : decode cX1_isFitting 51 = .ok (.aload_n 0, 1) := by decide +kernel
theorem dX1_isFitting_52 : decode cX1_isFitting 52 = .ok (.getfield 18, 3) := by decide +kernel
theorem dX1_isFitting_55 : decode cX1_isFitting 55 = .ok (.iload 5, 2) := by decide +kernel
theorem dX1_isFitting_57 : decode cX1_isFitting 57 = .ok (.iaload, 1) := by decide +kernel
theorem dX1_isFitting_58 : decode cX1_isFitting 58 = .ok (.iconst 1, 1) := by decide +kernel
theorem dX1_isFitting_59 : decode cX1_isFitting 59 = .ok (.if_icmp .ne 7, 3) := by decide +kernel
theorem dX1_isFitting_62 : decode cX1_isFitting 62 = .ok (.iconst 1, 1) := by decide +kernel
theorem dX1_isFitting_63 : decode cX1_isFitting 63 = .ok (.goto 4, 3) := by decide +kernel
theorem dX1_isFitting_66 : decode cX1_isFitting 66 = .ok (.iconst 0, 1) := by decide +kernel
theorem dX1_isFitting_67 : decode cX1_isFitting 67 = .ok (.if_icmp .eq 5, 3) := by decide +kernel
theorem dX1_isFitting_70 : decode cX1_isFitting 70 = .ok (.iconst 0, 1) := by decide +kernel
theorem dX1_isFitting_71 : decode cX1_isFitting 71 = .ok (.ireturn, 1) := by decide +kernel
theorem dX1_isFitting_72 : decode cX1_isFitting 72 = .ok (.iinc 5 1, 3) := by decide +kernel
theorem dX1_isFitting_75 : decode cX1_isFitting 75 = .ok (.goto (-72), 3) := by decide +kernel
theorem dX1_isFitting_78 : decode cX1_isFitting 78 = .ok (.iconst 1, 1) := by decide +kernel
theorem dX1_isFitting_79 : decode cX1_isFitting 79 = .ok (.ireturn, 1) := by decide +kernel
theorem dX1_leftAtWorst_0 : decode cX1_leftAtWorst 0 = .ok (.iconst 0, 1) := by decide +kernel
theorem dX1_leftAtWorst_1 : decode cX1_leftAtWorst 1 = .ok (.istore 5, 2) := by decide +kernel
theorem dX1_leftAtWorst_3 : decode cX1_leftAtWorst 3 = .ok (.iconst 0, 1) := by decide +kernel
theorem dX1_leftAtWorst_4 : decode cX1_leftAtWorst 4 = .ok (.istore 6, 2) := by decide +kernel
theorem dX1_leftAtWorst_6 : decode cX1_leftAtWorst 6 = .ok (.iload 6, 2) := by decide +kernel
theorem dX1_leftAtWorst_8 : decode cX1_leftAtWorst 8 = .ok (.aload_n 1, 1) := by decide +kernel
theorem dX1_leftAtWorst_9 : decode cX1_leftAtWorst 9 = .ok (.getfield 25, 3) := by decide +kernel
theorem dX1_leftAtWorst_12 : decode cX1_leftAtWorst 12 = .ok (.getfield 31, 3) := by decide +kernel
theorem dX1_leftAtWorst_15 : decode cX1_leftAtWorst 15 = .ok (.if_icmp .ge 35, 3) := by decide +kernel
theorem dX1_leftAtWorst_18 : decode cX1_leftAtWorst 18 = .ok (.iload_n 2, 1) := by decide +kernel
theorem dX1_leftAtWorst_19 : decode cX1_leftAtWorst 19 = .ok (.iload 6, 2) := by decide +kernel
theorem dX1_leftAtWorst_21 : decode cX1_leftAtWorst 21 = .ok (.ishr, 1) := by decide +kernel
theorem dX1_leftAtWorst_22 : decode cX1_leftAtWorst 22 = .ok (.iconst 1, 1) := by decide +kernel
theorem dX1_leftAtWorst_23 : decode cX1_leftAtWorst 23 = .ok (.iand, 1) := by decide +kernel
theorem dX1_leftAtWorst_24 : decode cX1_leftAtWorst 24 = .ok (.iconst 1, 1) := by decide +kernel
theorem dX1_leftAtWorst_25 : decode cX1_leftAtWorst 25 = .ok (.if_icmp .ne 19, 3) := by decide +kernel
theorem dX1_leftAtWorst_28 : decode cX1_leftAtWorst 28 = .ok (.aload_n 0, 1) := by decide +kernel
theorem dX1_leftAtWorst_29 : decode cX1_leftAtWorst 29 = .ok (.aload_n 1, 1) := by decide +kernel
theorem dX1_leftAtWorst_30 : decode cX1_leftAtWorst 30 = .ok (.iload_n 3, 1) := by decide +kernel
theorem dX1_leftAtWorst_31 : decode cX1_leftAtWorst 31 = .ok (.iload 6, 2) := by decide +kernel
theorem dX1_leftAtWorst_33 : decode cX1_leftAtWorst 33 = .ok (.invokevirtual 51, 3) := by decide +kernel
theorem dX1_leftAtWorst_36 : decode cX1_leftAtWorst 36 = .ok (.iload 4, 2) := by decide +kernel
theorem dX1_leftAtWorst_38 : decode cX1_leftAtWorst 38 = .ok (.if_icmp .lt 6, 3) := by decide +kernel
theorem dX1_leftAtWorst_41 : decode cX1_leftAtWorst 41 = .ok (.iinc 5 1, 3) := by decide +kernel
theorem dX1_leftAtWorst_44 : decode cX1_leftAtWorst 44 = .ok (.iinc 6 1, 3) := by decide +kernel
theorem dX1_leftAtWorst_47 : decode cX1_leftAtWorst 47 = .ok (.goto (-41), 3) := by decide +kernel
theorem dX1_leftAtWorst_50 : decode cX1_leftAtWorst 50 = .ok (.iload 5, 2) := by decide +kernel
theorem dX1_leftAtWorst_52 : decode cX1_leftAtWorst 52 = .ok (.iload_n 2, 1) := by decide +kernel
theorem dX1_leftAtWorst_53 : decode cX1_leftAtWorst 53 = .ok (.invokestatic 57, 3) := by decide +kernel
theorem dX1_leftAtWorst_56 : decode cX1_leftAtWorst 56 = .ok (.iload 5, 2) := by decide +kernel
theorem dX1_leftAtWorst_58 : decode cX1_leftAtWorst 58 = .ok (.isub, 1) := by decide +kernel
theorem dX1_leftAtWorst_59 : decode cX1_leftAtWorst 59 = .ok (.invokestatic 63, 3) := by decide +kernel
theorem dX1_leftAtWorst_62 : decode cX1_leftAtWorst 62 = .ok (.ireturn, 1) := by decide +kernel
theorem dX2_init_0 : decode cX2_init 0 = .ok (.aload_n 0, 1) := by decide +kernel
theorem dX2_init_1 : decode cX2_init 1 = .ok (.invokespecial 3, 3) := by decide +kernel
theorem dX2_init_4 : decode cX2_init 4 = .ok (.aload_n 0, 1) := by decide +kernel
theorem dX2_init_5 : decode cX2_init 5 = .ok (.bipush 9, 2) := by decide +kernel
theorem dX2_init_7 : decode cX2_init 7 = .ok (.newarray .int, 2) := by decide +kernel
theorem dX2_init_9 : decode cX2_init 9 = .ok (.putfield 11, 3) := by decide +kernel
theorem dX2_init_12 : decode cX2_init 12 = .ok (.aload_n 0, 1) := by decide +kernel
theorem dX2_init_13 : decode cX2_init 13 = .ok (.bipush 24, 2) := by decide +kernel
theorem dX2_init_15 : decode cX2_init 15 = .ok (.newarray .int, 2) := by decide +kernel
theorem dX2_init_17 : decode cX2_init 17 = .ok (.putfield 15, 3) := by decide +kernel
theorem dX2_init_20 : decode cX2_init 20 = .ok (.return_, 1) := by decide +kernel
theorem dX2_glows_0 : decode cX2_glows 0 = .ok (.aload_n 0, 1) := by decide +kernel
theorem dX2_glows_1 : decode cX2_glows 1 = .ok (.iconst 0, 1) := by decide +kernel
theorem dX2_glows_2 : decode cX2_glows 2 = .ok (.aload_n 1, 1) := by decide +kernel
theorem dX2_glows_3 : decode cX2_glows 3 = .ok (.iload_n 2, 1) := by decide +kernel
theorem dX2_glows_4 : decode cX2_glows 4 = .ok (.iload_n 3, 1) := by decide +kernel
theorem dX2_glows_5 : decode cX2_glows 5 = .ok (.invokevirtual 18, 3) := by decide +kernel
theorem dX2_glows_8 : decode cX2_glows 8 = .ok (.invokestatic 22, 3) := by decide +kernel
theorem dX2_glows_11 : decode cX2_glows 11 = .ok (.ireturn, 1) := by decide +kernel
theorem dX2_wears_0 : decode cX2_wears 0 = .ok (.aload_n 0, 1) := by decide +kernel
theorem dX2_wears_1 : decode cX2_wears 1 = .ok (.iconst 1, 1) := by decide +kernel
theorem dX2_wears_2 : decode cX2_wears 2 = .ok (.aload_n 1, 1) := by decide +kernel
theorem dX2_wears_3 : decode cX2_wears 3 = .ok (.iload_n 2, 1) := by decide +kernel
theorem dX2_wears_4 : decode cX2_wears 4 = .ok (.iload_n 3, 1) := by decide +kernel
theorem dX2_wears_5 : decode cX2_wears 5 = .ok (.invokevirtual 18, 3) := by decide +kernel
theorem dX2_wears_8 : decode cX2_wears 8 = .ok (.invokestatic 22, 3) := by decide +kernel
theorem dX2_wears_11 : decode cX2_wears 11 = .ok (.ireturn, 1) := by decide +kernel
theorem dX2_cools_0 : decode cX2_cools 0 = .ok (.aload_n 0, 1) := by decide +kernel
theorem dX2_cools_1 : decode cX2_cools 1 = .ok (.iconst 2, 1) := by decide +kernel
theorem dX2_cools_2 : decode cX2_cools 2 = .ok (.aload_n 1, 1) := by decide +kernel
theorem dX2_cools_3 : decode cX2_cools 3 = .ok (.iload_n 2, 1) := by decide +kernel
theorem dX2_cools_4 : decode cX2_cools 4 = .ok (.iconst (-1), 1) := by decide +kernel
theorem dX2_cools_5 : decode cX2_cools 5 = .ok (.invokevirtual 18, 3) := by decide +kernel
theorem dX2_cools_8 : decode cX2_cools 8 = .ok (.invokestatic 22, 3) := by decide +kernel
theorem dX2_cools_11 : decode cX2_cools 11 = .ok (.ireturn, 1) := by decide +kernel
theorem dX2_leaves_0 : decode cX2_leaves 0 = .ok (.aload_n 0, 1) := by decide +kernel
theorem dX2_leaves_1 : decode cX2_leaves 1 = .ok (.iconst 3, 1) := by decide +kernel
theorem dX2_leaves_2 : decode cX2_leaves 2 = .ok (.aload_n 1, 1) := by decide +kernel
theorem dX2_leaves_3 : decode cX2_leaves 3 = .ok (.iload_n 2, 1) := by decide +kernel
theorem dX2_leaves_4 : decode cX2_leaves 4 = .ok (.iconst (-1), 1) := by decide +kernel
theorem dX2_leaves_5 : decode cX2_leaves 5 = .ok (.invokevirtual 18, 3) := by decide +kernel
theorem dX2_leaves_8 : decode cX2_leaves 8 = .ok (.ifCond .le 7, 3) := by decide +kernel
theorem dX2_leaves_11 : decode cX2_leaves 11 = .ok (.iconst 1, 1) := by decide +kernel
theorem dX2_leaves_12 : decode cX2_leaves 12 = .ok (.goto 4, 3) := by decide +kernel
theorem dX2_leaves_15 : decode cX2_leaves 15 = .ok (.iconst 0, 1) := by decide +kernel
theorem dX2_leaves_16 : decode cX2_leaves 16 = .ok (.ireturn, 1) := by decide +kernel
theorem dX2_glowIfTold_0 : decode cX2_glowIfTold 0 = .ok (.aload_n 1, 1) := by decide +kernel
theorem dX2_glowIfTold_1 : decode cX2_glowIfTold 1 = .ok (.iload_n 2, 1) := by decide +kernel
theorem dX2_glowIfTold_2 : decode cX2_glowIfTold 2 = .ok (.invokevirtual 26, 3) := by decide +kernel
theorem dX2_glowIfTold_5 : decode cX2_glowIfTold 5 = .ok (.ifCond .eq 5, 3) := by decide +kernel
theorem dX2_glowIfTold_8 : decode cX2_glowIfTold 8 = .ok (.iconst 0, 1) := by decide +kernel
theorem dX2_glowIfTold_9 : decode cX2_glowIfTold 9 = .ok (.ireturn, 1) := by decide +kernel
theorem dX2_glowIfTold_10 : decode cX2_glowIfTold 10 = .ok (.sipush 999, 3) := by decide +kernel
theorem dX2_glowIfTold_13 : decode cX2_glowIfTold 13 = .ok (.aload_n 1, 1) := by decide +kernel
theorem dX2_glowIfTold_14 : decode cX2_glowIfTold 14 = .ok (.getfield 32, 3) := by decide +kernel
theorem dX2_glowIfTold_17 : decode cX2_glowIfTold 17 = .ok (.iload_n 2, 1) := by decide +kernel
theorem dX2_glowIfTold_18 : decode cX2_glowIfTold 18 = .ok (.iaload, 1) := by decide +kernel
theorem dX2_glowIfTold_19 : decode cX2_glowIfTold 19 = .ok (.aload_n 0, 1) := by decide +kernel
theorem dX2_glowIfTold_20 : decode cX2_glowIfTold 20 = .ok (.iconst 0, 1) := by decide +kernel
theorem dX2_glowIfTold_21 : decode cX2_glowIfTold 21 = .ok (.aload_n 1, 1) := by decide +kernel
theorem dX2_glowIfTold_22 : decode cX2_glowIfTold 22 = .ok (.iload_n 2, 1) := by decide +kernel
theorem dX2_glowIfTold_23 : decode cX2_glowIfTold 23 = .ok (.iload_n 3, 1) := by decide +kernel
theorem dX2_glowIfTold_24 : decode cX2_glowIfTold 24 = .ok (.invokevirtual 18, 3) := by decide +kernel
theorem dX2_glowIfTold_27 : decode cX2_glowIfTold 27 = .ok (.invokestatic 22, 3) := by decide +kernel
theorem dX2_glowIfTold_30 : decode cX2_glowIfTold 30 = .ok (.iadd, 1) := by decide +kernel
theorem dX2_glowIfTold_31 : decode cX2_glowIfTold 31 = .ok (.invokestatic 35, 3) := by decide +kernel
theorem dX2_glowIfTold_34 : decode cX2_glowIfTold 34 = .ok (.ireturn, 1) := by decide +kernel
theorem dX2_hottestFor_0 : decode cX2_hottestFor 0 = .ok (.iconst 0, 1) := by decide +kernel
theorem dX2_hottestFor_1 : decode cX2_hottestFor 1 = .ok (.istore_n 3, 1) := by decide +kernel
theorem dX2_hottestFor_2 : decode cX2_hottestFor 2 = .ok (.iconst (-1), 1) := by decide +kernel
theorem dX2_hottestFor_3 : decode cX2_hottestFor 3 = .ok (.istore 4, 2) := by decide +kernel
theorem dX2_hottestFor_5 : decode cX2_hottestFor 5 = .ok (.iconst 0, 1) := by decide +kernel
theorem dX2_hottestFor_6 : decode cX2_hottestFor 6 = .ok (.istore 5, 2) := by decide +kernel
theorem dX2_hottestFor_8 : decode cX2_hottestFor 8 = .ok (.iload 5, 2) := by decide +kernel
theorem dX2_hottestFor_10 : decode cX2_hottestFor 10 = .ok (.aload_n 1, 1) := by decide +kernel
theorem dX2_hottestFor_11 : decode cX2_hottestFor 11 = .ok (.getfield 41, 3) := by decide +kernel
theorem dX2_hottestFor_14 : decode cX2_hottestFor 14 = .ok (.getfield 45, 3) := by decide +kernel
theorem dX2_hottestFor_17 : decode cX2_hottestFor 17 = .ok (.if_icmp .ge 33, 3) := by decide +kernel
theorem dX2_hottestFor_20 : decode cX2_hottestFor 20 = .ok (.aload_n 0, 1) := by decide +kernel
theorem dX2_hottestFor_21 : decode cX2_hottestFor 21 = .ok (.aload_n 1, 1) := by decide +kernel
theorem dX2_hottestFor_22 : decode cX2_hottestFor 22 = .ok (.iload_n 2, 1) := by decide +kernel
theorem dX2_hottestFor_23 : decode cX2_hottestFor 23 = .ok (.iload 5, 2) := by decide +kernel
theorem dX2_hottestFor_25 : decode cX2_hottestFor 25 = .ok (.invokevirtual 51, 3) := by decide +kernel
theorem dX2_hottestFor_28 : decode cX2_hottestFor 28 = .ok (.istore 6, 2) := by decide +kernel
theorem dX2_hottestFor_30 : decode cX2_hottestFor 30 = .ok (.iload 6, 2) := by decide +kernel
theorem dX2_hottestFor_32 : decode cX2_hottestFor 32 = .ok (.iload 4, 2) := by decide +kernel
theorem dX2_hottestFor_34 : decode cX2_hottestFor 34 = .ok (.if_icmp .le 10, 3) := by decide +kernel
theorem dX2_hottestFor_37 : decode cX2_hottestFor 37 = .ok (.iload 6, 2) := by decide +kernel
theorem dX2_hottestFor_39 : decode cX2_hottestFor 39 = .ok (.istore 4, 2) := by decide +kernel
theorem dX2_hottestFor_41 : decode cX2_hottestFor 41 = .ok (.iload 5, 2) := by decide +kernel
theorem dX2_hottestFor_43 : decode cX2_hottestFor 43 = .ok (.istore_n 3, 1) := by decide +kernel
theorem dX2_hottestFor_44 : decode cX2_hottestFor 44 = .ok (.iinc 5 1, 3) := by decide +kernel
theorem dX2_hottestFor_47 : decode cX2_hottestFor 47 = .ok (.goto (-39), 3) := by decide +kernel
theorem dX2_hottestFor_50 : decode cX2_hottestFor 50 = .ok (.iload_n 3, 1) := by decide +kernel
theorem dX2_hottestFor_51 : decode cX2_hottestFor 51 = .ok (.ireturn, 1) := by decide +kernel
theorem dX2_mostLasting_0 : decode cX2_mostLasting 0 = .ok (.iconst 0, 1) := by decide +kernel
theorem dX2_mostLasting_1 : decode cX2_mostLasting 1 = .ok (.istore_n 3, 1) := by decide +kernel
theorem dX2_mostLasting_2 : decode cX2_mostLasting 2 = .ok (.bipush (-100), 2) := by decide +kernel
theorem dX2_mostLasting_4 : decode cX2_mostLasting 4 = .ok (.istore 4, 2) := by decide +kernel
theorem dX2_mostLasting_6 : decode cX2_mostLasting 6 = .ok (.iconst 0, 1) := by decide +kernel
theorem dX2_mostLasting_7 : decode cX2_mostLasting 7 = .ok (.istore 5, 2) := by decide +kernel
theorem dX2_mostLasting_9 : decode cX2_mostLasting 9 = .ok (.iload 5, 2) := by decide +kernel
theorem dX2_mostLasting_11 : decode cX2_mostLasting 11 = .ok (.aload_n 1, 1) := by decide +kernel
theorem dX2_mostLasting_12 : decode cX2_mostLasting 12 = .ok (.getfield 41, 3) := by decide +kernel
theorem dX2_mostLasting_15 : decode cX2_mostLasting 15 = .ok (.getfield 45, 3) := by decide +kernel
theorem dX2_mostLasting_18 : decode cX2_mostLasting 18 = .ok (.if_icmp .ge 41, 3) := by decide +kernel
theorem dX2_mostLasting_21 : decode cX2_mostLasting 21 = .ok (.aload_n 1, 1) := by decide +kernel
theorem dX2_mostLasting_22 : decode cX2_mostLasting 22 = .ok (.getfield 55, 3) := by decide +kernel
theorem dX2_mostLasting_25 : decode cX2_mostLasting 25 = .ok (.iload 5, 2) := by decide +kernel
theorem dX2_mostLasting_27 : decode cX2_mostLasting 27 = .ok (.iaload, 1) := by decide +kernel
theorem dX2_mostLasting_28 : decode cX2_mostLasting 28 = .ok (.aload_n 0, 1) := by decide +kernel
theorem dX2_mostLasting_29 : decode cX2_mostLasting 29 = .ok (.aload_n 1, 1) := by decide +kernel
theorem dX2_mostLasting_30 : decode cX2_mostLasting 30 = .ok (.iload_n 2, 1) := by decide +kernel
theorem dX2_mostLasting_31 : decode cX2_mostLasting 31 = .ok (.iload 5, 2) := by decide +kernel
theorem dX2_mostLasting_33 : decode cX2_mostLasting 33 = .ok (.invokevirtual 58, 3) := by decide +kernel
theorem dX2_mostLasting_36 : decode cX2_mostLasting 36 = .ok (.isub, 1) := by decide +kernel
theorem dX2_mostLasting_37 : decode cX2_mostLasting 37 = .ok (.istore 6, 2) := by decide +kernel
theorem dX2_mostLasting_39 : decode cX2_mostLasting 39 = .ok (.iload 6, 2) := by decide +kernel
theorem dX2_mostLasting_41 : decode cX2_mostLasting 41 = .ok (.iload 4, 2) := by decide +kernel
theorem dX2_mostLasting_43 : decode cX2_mostLasting 43 = .ok (.if_icmp .le 10, 3) := by decide +kernel
theorem dX2_mostLasting_46 : decode cX2_mostLasting 46 = .ok (.iload 6, 2) := by decide +kernel
theorem dX2_mostLasting_48 : decode cX2_mostLasting 48 = .ok (.istore 4, 2) := by decide +kernel
theorem dX2_mostLasting_50 : decode cX2_mostLasting 50 = .ok (.iload 5, 2) := by decide +kernel
theorem dX2_mostLasting_52 : decode cX2_mostLasting 52 = .ok (.istore_n 3, 1) := by decide +kernel
theorem dX2_mostLasting_53 : decode cX2_mostLasting 53 = .ok (.iinc 5 1, 3) := by decide +kernel
theorem dX2_mostLasting_56 : decode cX2_mostLasting 56 = .ok (.goto (-47), 3) := by decide +kernel
theorem dX2_mostLasting_59 : decode cX2_mostLasting 59 = .ok (.iload_n 3, 1) := by decide +kernel
theorem dX2_mostLasting_60 : decode cX2_mostLasting 60 = .ok (.ireturn, 1) := by decide +kernel
theorem dX2_apart_0 : decode cX2_apart 0 = .ok (.iconst 0, 1) := by decide +kernel
theorem dX2_apart_1 : decode cX2_apart 1 = .ok (.istore 4, 2) := by decide +kernel
theorem dX2_apart_3 : decode cX2_apart 3 = .ok (.iconst 0, 1) := by decide +kernel
theorem dX2_apart_4 : decode cX2_apart 4 = .ok (.istore 5, 2) := by decide +kernel
theorem dX2_apart_6 : decode cX2_apart 6 = .ok (.iload 5, 2) := by decide +kernel
theorem dX2_apart_8 : decode cX2_apart 8 = .ok (.aload_n 1, 1) := by decide +kernel
theorem dX2_apart_9 : decode cX2_apart 9 = .ok (.getfield 41, 3) := by decide +kernel
theorem dX2_apart_12 : decode cX2_apart 12 = .ok (.getfield 61, 3) := by decide +kernel
theorem dX2_apart_15 : decode cX2_apart 15 = .ok (.if_icmp .ge 43, 3) := by decide +kernel
theorem dX2_apart_18 : decode cX2_apart 18 = .ok (.aload_n 1, 1) := by decide +kernel
theorem dX2_apart_19 : decode cX2_apart 19 = .ok (.iload 5, 2) := by decide +kernel
theorem dX2_apart_21 : decode cX2_apart 21 = .ok (.invokevirtual 26, 3) := by decide +kernel
theorem dX2_apart_24 : decode cX2_apart 24 = .ok (.ifCond .ne 28, 3) := by decide +kernel
theorem dX2_apart_27 : decode cX2_apart 27 = .ok (.iload 4, 2) := by decide +kernel
theorem dX2_apart_29 : decode cX2_apart 29 = .ok (.aload_n 0, 1) := by decide +kernel
theorem dX2_apart_30 : decode cX2_apart 30 = .ok (.aload_n 1, 1) := by decide +kernel
theorem dX2_apart_31 : decode cX2_apart 31 = .ok (.iload 5, 2) := by decide +kernel
theorem dX2_apart_33 : decode cX2_apart 33 = .ok (.iload_n 2, 1) := by decide +kernel
theorem dX2_apart_34 : decode cX2_apart 34 = .ok (.invokevirtual 64, 3) := by decide +kernel
theorem dX2_apart_37 : decode cX2_apart 37 = .ok (.aload_n 0, 1) := by decide +kernel
theorem dX2_apart_38 : decode cX2_apart 38 = .ok (.aload_n 1, 1) := by decide +kernel
theorem dX2_apart_39 : decode cX2_apart 39 = .ok (.iload 5, 2) := by decide +kernel
theorem dX2_apart_41 : decode cX2_apart 41 = .ok (.iload_n 3, 1) := by decide +kernel
theorem dX2_apart_42 : decode cX2_apart 42 = .ok (.invokevirtual 64, 3) := by decide +kernel
theorem dX2_apart_45 : decode cX2_apart 45 = .ok (.isub, 1) := by decide +kernel
theorem dX2_apart_46 : decode cX2_apart 46 = .ok (.invokestatic 67, 3) := by decide +kernel
theorem dX2_apart_49 : decode cX2_apart 49 = .ok (.iadd, 1) := by decide +kernel
theorem dX2_apart_50 : decode cX2_apart 50 = .ok (.istore 4, 2) := by decide +kernel
theorem dX2_apart_52 : decode cX2_apart 52 = .ok (.iinc 5 1, 3) := by decide +kernel
theorem dX2_apart_55 : decode cX2_apart 55 = .ok (.goto (-49), 3) := by decide +kernel
theorem dX2_apart_58 : decode cX2_apart 58 = .ok (.iload 4, 2) := by decide +kernel
theorem dX2_apart_60 : decode cX2_apart 60 = .ok (.ireturn, 1) := by decide +kernel
theorem dX2_mostAlike_0 : decode cX2_mostAlike 0 = .ok (.iconst 1, 1) := by decide +kernel
theorem dX2_mostAlike_1 : decode cX2_mostAlike 1 = .ok (.istore_n 2, 1) := by decide +kernel
theorem dX2_mostAlike_2 : decode cX2_mostAlike 2 = .ok (.sipush 595, 3) := by decide +kernel
theorem dX2_mostAlike_5 : decode cX2_mostAlike 5 = .ok (.istore_n 3, 1) := by decide +kernel
theorem dX2_mostAlike_6 : decode cX2_mostAlike 6 = .ok (.iconst 0, 1) := by decide +kernel
theorem dX2_mostAlike_7 : decode cX2_mostAlike 7 = .ok (.istore 4, 2) := by decide +kernel
theorem dX2_mostAlike_9 : decode cX2_mostAlike 9 = .ok (.iload 4, 2) := by decide +kernel
theorem dX2_mostAlike_11 : decode cX2_mostAlike 11 = .ok (.aload_n 1, 1) := by decide +kernel
theorem dX2_mostAlike_12 : decode cX2_mostAlike 12 = .ok (.getfield 41, 3) := by decide +kernel
theorem dX2_mostAlike_15 : decode cX2_mostAlike 15 = .ok (.getfield 45, 3) := by decide +kernel
theorem dX2_mostAlike_18 : decode cX2_mostAlike 18 = .ok (.if_icmp .ge 62, 3) := by decide +kernel
theorem dX2_mostAlike_21 : decode cX2_mostAlike 21 = .ok (.iload 4, 2) := by decide +kernel
theorem dX2_mostAlike_23 : decode cX2_mostAlike 23 = .ok (.iconst 1, 1) := by decide +kernel
theorem dX2_mostAlike_24 : decode cX2_mostAlike 24 = .ok (.iadd, 1) := by decide +kernel
theorem dX2_mostAlike_25 : decode cX2_mostAlike 25 = .ok (.istore 5, 2) := by decide +kernel
theorem dX2_mostAlike_27 : decode cX2_mostAlike 27 = .ok (.iload 5, 2) := by decide +kernel
theorem dX2_mostAlike_29 : decode cX2_mostAlike 29 = .ok (.aload_n 1, 1) := by decide +kernel
theorem dX2_mostAlike_30 : decode cX2_mostAlike 30 = .ok (.getfield 41, 3) := by decide +kernel
theorem dX2_mostAlike_33 : decode cX2_mostAlike 33 = .ok (.getfield 45, 3) := by decide +kernel
theorem dX2_mostAlike_36 : decode cX2_mostAlike 36 = .ok (.if_icmp .ge 38, 3) := by decide +kernel
theorem dX2_mostAlike_39 : decode cX2_mostAlike 39 = .ok (.aload_n 0, 1) := by decide +kernel
theorem dX2_mostAlike_40 : decode cX2_mostAlike 40 = .ok (.aload_n 1, 1) := by decide +kernel
theorem dX2_mostAlike_41 : decode cX2_mostAlike 41 = .ok (.iload 4, 2) := by decide +kernel
theorem dX2_mostAlike_43 : decode cX2_mostAlike 43 = .ok (.iload 5, 2) := by decide +kernel
theorem dX2_mostAlike_45 : decode cX2_mostAlike 45 = .ok (.invokevirtual 70, 3) := by decide +kernel
theorem dX2_mostAlike_48 : decode cX2_mostAlike 48 = .ok (.istore 6, 2) := by decide +kernel
theorem dX2_mostAlike_50 : decode cX2_mostAlike 50 = .ok (.iload 6, 2) := by decide +kernel
theorem dX2_mostAlike_52 : decode cX2_mostAlike 52 = .ok (.iload_n 3, 1) := by decide +kernel
theorem dX2_mostAlike_53 : decode cX2_mostAlike 53 = .ok (.if_icmp .ge 15, 3) := by decide +kernel
theorem dX2_mostAlike_56 : decode cX2_mostAlike 56 = .ok (.iload 6, 2) := by decide +kernel
theorem dX2_mostAlike_58 : decode cX2_mostAlike 58 = .ok (.istore_n 3, 1) := by decide +kernel
theorem dX2_mostAlike_59 : decode cX2_mostAlike 59 = .ok (.bipush 10, 2) := by decide +kernel
theorem dX2_mostAlike_61 : decode cX2_mostAlike 61 = .ok (.iload 4, 2) := by decide +kernel
theorem dX2_mostAlike_63 : decode cX2_mostAlike 63 = .ok (.imul, 1) := by decide +kernel
theorem dX2_mostAlike_64 : decode cX2_mostAlike 64 = .ok (.iload 5, 2) := by decide +kernel
theorem dX2_mostAlike_66 : decode cX2_mostAlike 66 = .ok (.iadd, 1) := by decide +kernel
theorem dX2_mostAlike_67 : decode cX2_mostAlike 67 = .ok (.istore_n 2, 1) := by decide +kernel
theorem dX2_mostAlike_68 : decode cX2_mostAlike 68 = .ok (.iinc 5 1, 3) := by decide +kernel
theorem dX2_mostAlike_71 : decode cX2_mostAlike 71 = .ok (.goto (-44), 3) := by decide +kernel
theorem dX2_mostAlike_74 : decode cX2_mostAlike 74 = .ok (.iinc 4 1, 3) := by decide +kernel
theorem dX2_mostAlike_77 : decode cX2_mostAlike 77 = .ok (.goto (-68), 3) := by decide +kernel
theorem dX2_mostAlike_80 : decode cX2_mostAlike 80 = .ok (.iload_n 2, 1) := by decide +kernel
theorem dX2_mostAlike_81 : decode cX2_mostAlike 81 = .ok (.ireturn, 1) := by decide +kernel
theorem dX2_held_0 : decode cX2_held 0 = .ok (.iconst 0, 1) := by decide +kernel
theorem dX2_held_1 : decode cX2_held 1 = .ok (.bipush 99, 2) := by decide +kernel
theorem dX2_held_3 : decode cX2_held 3 = .ok (.iload_n 0, 1) := by decide +kernel
theorem dX2_held_4 : decode cX2_held 4 = .ok (.invokestatic 35, 3) := by decide +kernel
theorem dX2_held_7 : decode cX2_held 7 = .ok (.invokestatic 73, 3) := by decide +kernel
theorem dX2_held_10 : decode cX2_held 10 = .ok (.ireturn, 1) := by decide +kernel
theorem dX2_lawOf_0 : decode cX2_lawOf 0 = .ok (.aload_n 2, 1) := by decide +kernel
theorem dX2_lawOf_1 : decode cX2_lawOf 1 = .ok (.getfield 41, 3) := by decide +kernel
theorem dX2_lawOf_4 : decode cX2_lawOf 4 = .ok (.astore 5, 2) := by decide +kernel
theorem dX2_lawOf_6 : decode cX2_lawOf 6 = .ok (.aload_n 0, 1) := by decide +kernel
theorem dX2_lawOf_7 : decode cX2_lawOf 7 = .ok (.getfield 11, 3) := by decide +kernel
theorem dX2_lawOf_10 : decode cX2_lawOf 10 = .ok (.iconst 0, 1) := by decide +kernel
theorem dX2_lawOf_11 : decode cX2_lawOf 11 = .ok (.iload 4, 2) := by decide +kernel
theorem dX2_lawOf_13 : decode cX2_lawOf 13 = .ok (.iconst (-1), 1) := by decide +kernel
theorem dX2_lawOf_14 : decode cX2_lawOf 14 = .ok (.if_icmp .ne 7, 3) := by decide +kernel
theorem dX2_lawOf_17 : decode cX2_lawOf 17 = .ok (.iconst 0, 1) := by decide +kernel
theorem dX2_lawOf_18 : decode cX2_lawOf 18 = .ok (.goto 10, 3) := by decide +kernel
theorem dX2_lawOf_21 : decode cX2_lawOf 21 = .ok (.aload_n 2, 1) := by decide +kernel
theorem dX2_lawOf_22 : decode cX2_lawOf 22 = .ok (.getfield 55, 3) := by decide +kernel
theorem dX2_lawOf_25 : decode cX2_lawOf 25 = .ok (.iload 4, 2) := by decide +kernel
theorem dX2_lawOf_27 : decode cX2_lawOf 27 = .ok (.iaload, 1) := by decide +kernel
theorem dX2_lawOf_28 : decode cX2_lawOf 28 = .ok (.iastore, 1) := by decide +kernel
theorem dX2_lawOf_29 : decode cX2_lawOf 29 = .ok (.aload_n 0, 1) := by decide +kernel
theorem dX2_lawOf_30 : decode cX2_lawOf 30 = .ok (.getfield 11, 3) := by decide +kernel
theorem dX2_lawOf_33 : decode cX2_lawOf 33 = .ok (.iconst 1, 1) := by decide +kernel
theorem dX2_lawOf_34 : decode cX2_lawOf 34 = .ok (.aload 5, 2) := by decide +kernel
theorem dX2_lawOf_36 : decode cX2_lawOf 36 = .ok (.getfield 76, 3) := by decide +kernel
theorem dX2_lawOf_39 : decode cX2_lawOf 39 = .ok (.iload_n 3, 1) := by decide +kernel
theorem dX2_lawOf_40 : decode cX2_lawOf 40 = .ok (.iaload, 1) := by decide +kernel
theorem dX2_lawOf_41 : decode cX2_lawOf 41 = .ok (.iastore, 1) := by decide +kernel
theorem dX2_lawOf_42 : decode cX2_lawOf 42 = .ok (.aload_n 0, 1) := by decide +kernel
theorem dX2_lawOf_43 : decode cX2_lawOf 43 = .ok (.getfield 11, 3) := by decide +kernel
theorem dX2_lawOf_46 : decode cX2_lawOf 46 = .ok (.iconst 2, 1) := by decide +kernel
theorem dX2_lawOf_47 : decode cX2_lawOf 47 = .ok (.aload 5, 2) := by decide +kernel
theorem dX2_lawOf_49 : decode cX2_lawOf 49 = .ok (.getfield 79, 3) := by decide +kernel
theorem dX2_lawOf_52 : decode cX2_lawOf 52 = .ok (.iload_n 3, 1) := by decide +kernel
theorem dX2_lawOf_53 : decode cX2_lawOf 53 = .ok (.iaload, 1) := by decide +kernel
theorem dX2_lawOf_54 : decode cX2_lawOf 54 = .ok (.iastore, 1) := by decide +kernel
theorem dX2_lawOf_55 : decode cX2_lawOf 55 = .ok (.aload_n 0, 1) := by decide +kernel
theorem dX2_lawOf_56 : decode cX2_lawOf 56 = .ok (.getfield 11, 3) := by decide +kernel
theorem dX2_lawOf_59 : decode cX2_lawOf 59 = .ok (.iconst 3, 1) := by decide +kernel
theorem dX2_lawOf_60 : decode cX2_lawOf 60 = .ok (.iload 4, 2) := by decide +kernel
theorem dX2_lawOf_62 : decode cX2_lawOf 62 = .ok (.iconst (-1), 1) := by decide +kernel
theorem dX2_lawOf_63 : decode cX2_lawOf 63 = .ok (.if_icmp .ne 7, 3) := by decide +kernel
theorem dX2_lawOf_66 : decode cX2_lawOf 66 = .ok (.iconst 0, 1) := by decide +kernel
theorem dX2_lawOf_67 : decode cX2_lawOf 67 = .ok (.goto 10, 3) := by decide +kernel
theorem dX2_lawOf_70 : decode cX2_lawOf 70 = .ok (.aload_n 2, 1) := by decide +kernel
theorem dX2_lawOf_71 : decode cX2_lawOf 71 = .ok (.getfield 82, 3) := by decide +kernel
theorem dX2_lawOf_74 : decode cX2_lawOf 74 = .ok (.iload 4, 2) := by decide +kernel
theorem dX2_lawOf_76 : decode cX2_lawOf 76 = .ok (.iaload, 1) := by decide +kernel
theorem dX2_lawOf_77 : decode cX2_lawOf 77 = .ok (.iastore, 1) := by decide +kernel
theorem dX2_lawOf_78 : decode cX2_lawOf 78 = .ok (.aload_n 0, 1) := by decide +kernel
theorem dX2_lawOf_79 : decode cX2_lawOf 79 = .ok (.getfield 11, 3) := by decide +kernel
theorem dX2_lawOf_82 : decode cX2_lawOf 82 = .ok (.iconst 4, 1) := by decide +kernel
theorem dX2_lawOf_83 : decode cX2_lawOf 83 = .ok (.aload_n 2, 1) := by decide +kernel
theorem dX2_lawOf_84 : decode cX2_lawOf 84 = .ok (.iload_n 3, 1) := by decide +kernel
theorem dX2_lawOf_85 : decode cX2_lawOf 85 = .ok (.invokevirtual 85, 3) := by decide +kernel
theorem dX2_lawOf_88 : decode cX2_lawOf 88 = .ok (.iastore, 1) := by decide +kernel
theorem dX2_lawOf_89 : decode cX2_lawOf 89 = .ok (.aload_n 0, 1) := by decide +kernel
theorem dX2_lawOf_90 : decode cX2_lawOf 90 = .ok (.getfield 11, 3) := by decide +kernel
theorem dX2_lawOf_93 : decode cX2_lawOf 93 = .ok (.iconst 5, 1) := by decide +kernel
theorem dX2_lawOf_94 : decode cX2_lawOf 94 = .ok (.aload_n 2, 1) := by decide +kernel
theorem dX2_lawOf_95 : decode cX2_lawOf 95 = .ok (.getfield 88, 3) := by decide +kernel
theorem dX2_lawOf_98 : decode cX2_lawOf 98 = .ok (.bipush 24, 2) := by decide +kernel
theorem dX2_lawOf_100 : decode cX2_lawOf 100 = .ok (.irem, 1) := by decide +kernel
theorem dX2_lawOf_101 : decode cX2_lawOf 101 = .ok (.iastore, 1) := by decide +kernel
theorem dX2_lawOf_102 : decode cX2_lawOf 102 = .ok (.aload_n 0, 1) := by decide +kernel
theorem dX2_lawOf_103 : decode cX2_lawOf 103 = .ok (.getfield 11, 3) := by decide +kernel
theorem dX2_lawOf_106 : decode cX2_lawOf 106 = .ok (.bipush 6, 2) := by decide +kernel
theorem dX2_lawOf_108 : decode cX2_lawOf 108 = .ok (.aload_n 2, 1) := by decide +kernel
theorem dX2_lawOf_109 : decode cX2_lawOf 109 = .ok (.getfield 32, 3) := by decide +kernel
theorem dX2_lawOf_112 : decode cX2_lawOf 112 = .ok (.iload_n 3, 1) := by decide +kernel
theorem dX2_lawOf_113 : decode cX2_lawOf 113 = .ok (.iaload, 1) := by decide +kernel
theorem dX2_lawOf_114 : decode cX2_lawOf 114 = .ok (.iastore, 1) := by decide +kernel
theorem dX2_lawOf_115 : decode cX2_lawOf 115 = .ok (.aload_n 0, 1) := by decide +kernel
theorem dX2_lawOf_116 : decode cX2_lawOf 116 = .ok (.getfield 11, 3) := by decide +kernel
theorem dX2_lawOf_119 : decode cX2_lawOf 119 = .ok (.bipush 7, 2) := by decide +kernel
theorem dX2_lawOf_121 : decode cX2_lawOf 121 = .ok (.iload_n 3, 1) := by decide +kernel
theorem dX2_lawOf_122 : decode cX2_lawOf 122 = .ok (.iastore, 1) := by decide +kernel
theorem dX2_lawOf_123 : decode cX2_lawOf 123 = .ok (.aload_n 0, 1) := by decide +kernel
theorem dX2_lawOf_124 : decode cX2_lawOf 124 = .ok (.getfield 11, 3) := by decide +kernel
theorem dX2_lawOf_127 : decode cX2_lawOf 127 = .ok (.bipush 8, 2) := by decide +kernel
theorem dX2_lawOf_129 : decode cX2_lawOf 129 = .ok (.aload_n 2, 1) := by decide +kernel
theorem dX2_lawOf_130 : decode cX2_lawOf 130 = .ok (.getfield 91, 3) := by decide +kernel
theorem dX2_lawOf_133 : decode cX2_lawOf 133 = .ok (.iload_n 3, 1) := by decide +kernel
theorem dX2_lawOf_134 : decode cX2_lawOf 134 = .ok (.iaload, 1) := by decide +kernel
theorem dX2_lawOf_135 : decode cX2_lawOf 135 = .ok (.iastore, 1) := by decide +kernel
theorem dX2_lawOf_136 : decode cX2_lawOf 136 = .ok (.aload_n 0, 1) := by decide +kernel
theorem dX2_lawOf_137 : decode cX2_lawOf 137 = .ok (.aload 5, 2) := by decide +kernel
theorem dX2_lawOf_139 : decode cX2_lawOf 139 = .ok (.aload 5, 2) := by decide +kernel
theorem dX2_lawOf_141 : decode cX2_lawOf 141 = .ok (.getfield 94, 3) := by decide +kernel
theorem dX2_lawOf_144 : decode cX2_lawOf 144 = .ok (.iload_n 1, 1) := by decide +kernel
theorem dX2_lawOf_145 : decode cX2_lawOf 145 = .ok (.iaload, 1) := by decide +kernel
theorem dX2_lawOf_146 : decode cX2_lawOf 146 = .ok (.invokevirtual 97, 3) := by decide +kernel
theorem dX2_lawOf_149 : decode cX2_lawOf 149 = .ok (.ireturn, 1) := by decide +kernel
theorem dX2_run_0 : decode cX2_run 0 = .ok (.iconst 0, 1) := by decide +kernel
theorem dX2_run_1 : decode cX2_run 1 = .ok (.istore_n 3, 1) := by decide +kernel
theorem dX2_run_2 : decode cX2_run 2 = .ok (.iload_n 2, 1) := by decide +kernel
theorem dX2_run_3 : decode cX2_run 3 = .ok (.istore 4, 2) := by decide +kernel
theorem dX2_run_5 : decode cX2_run 5 = .ok (.iconst 0, 1) := by decide +kernel
theorem dX2_run_6 : decode cX2_run 6 = .ok (.istore 5, 2) := by decide +kernel
theorem dX2_run_8 : decode cX2_run 8 = .ok (.iload 5, 2) := by decide +kernel
theorem dX2_run_10 : decode cX2_run 10 = .ok (.sipush 407, 3) := by decide +kernel
theorem dX2_run_13 : decode cX2_run 13 = .ok (.if_icmp .ge 313, 3) := by decide +kernel
theorem dX2_run_16 : decode cX2_run 16 = .ok (.iload 4, 2) := by decide +kernel
theorem dX2_run_18 : decode cX2_run 18 = .ok (.ifCond .lt 308, 3) := by decide +kernel
theorem dX2_run_21 : decode cX2_run 21 = .ok (.iload 4, 2) := by decide +kernel
theorem dX2_run_23 : decode cX2_run 23 = .ok (.aload_n 1, 1) := by decide +kernel
theorem dX2_run_24 : decode cX2_run 24 = .ok (.getfield 101, 3) := by decide +kernel
theorem dX2_run_27 : decode cX2_run 27 = .ok (.if_icmp .ge 299, 3) := by decide +kernel
theorem dX2_run_30 : decode cX2_run 30 = .ok (.aload_n 1, 1) := by decide +kernel
theorem dX2_run_31 : decode cX2_run 31 = .ok (.getfield 104, 3) := by decide +kernel
theorem dX2_run_34 : decode cX2_run 34 = .ok (.iload 4, 2) := by decide +kernel
theorem dX2_run_36 : decode cX2_run 36 = .ok (.iaload, 1) := by decide +kernel
theorem dX2_run_37 : decode cX2_run 37 = .ok (.bipush 14, 2) := by decide +kernel
theorem dX2_run_39 : decode cX2_run 39 = .ok (.ishr, 1) := by decide +kernel
theorem dX2_run_40 : decode cX2_run 40 = .ok (.istore 6, 2) := by decide +kernel
theorem dX2_run_42 : decode cX2_run 42 = .ok (.aload_n 1, 1) := by decide +kernel
theorem dX2_run_43 : decode cX2_run 43 = .ok (.getfield 104, 3) := by decide +kernel
theorem dX2_run_46 : decode cX2_run 46 = .ok (.iload 4, 2) := by decide +kernel
theorem dX2_run_48 : decode cX2_run 48 = .ok (.iaload, 1) := by decide +kernel
theorem dX2_run_49 : decode cX2_run 49 = .ok (.sipush 16383, 3) := by decide +kernel
theorem dX2_run_52 : decode cX2_run 52 = .ok (.iand, 1) := by decide +kernel
theorem dX2_run_53 : decode cX2_run 53 = .ok (.istore 7, 2) := by decide +kernel
theorem dX2_run_55 : decode cX2_run 55 = .ok (.iinc 4 1, 3) := by decide +kernel
theorem dX2_run_58 : decode cX2_run 58 = .ok (.iload 6, 2) := by decide +kernel
theorem dX2_run_60 : decode cX2_run 60 = .ok (.iconst 3, 1) := by decide +kernel
theorem dX2_run_61 : decode cX2_run 61 = .ok (.if_icmp .ne 20, 3) := by decide +kernel
theorem dX2_run_64 : decode cX2_run 64 = .ok (.iload_n 3, 1) := by decide +kernel
theorem dX2_run_65 : decode cX2_run 65 = .ok (.ifCond .le 14, 3) := by decide +kernel
theorem dX2_run_68 : decode cX2_run 68 = .ok (.aload_n 0, 1) := by decide +kernel
theorem dX2_run_69 : decode cX2_run 69 = .ok (.getfield 15, 3) := by decide +kernel
theorem dX2_run_72 : decode cX2_run 72 = .ok (.iload_n 3, 1) := by decide +kernel
theorem dX2_run_73 : decode cX2_run 73 = .ok (.iconst 1, 1) := by decide +kernel
theorem dX2_run_74 : decode cX2_run 74 = .ok (.isub, 1) := by decide +kernel
theorem dX2_run_75 : decode cX2_run 75 = .ok (.iaload, 1) := by decide +kernel
theorem dX2_run_76 : decode cX2_run 76 = .ok (.goto 4, 3) := by decide +kernel
theorem dX2_run_79 : decode cX2_run 79 = .ok (.iconst 0, 1) := by decide +kernel
theorem dX2_run_80 : decode cX2_run 80 = .ok (.ireturn, 1) := by decide +kernel
theorem dX2_run_81 : decode cX2_run 81 = .ok (.iload 6, 2) := by decide +kernel
theorem dX2_run_83 : decode cX2_run 83 = .ok (.ifCond .eq 9, 3) := by decide +kernel
theorem dX2_run_86 : decode cX2_run 86 = .ok (.iload 6, 2) := by decide +kernel
theorem dX2_run_88 : decode cX2_run 88 = .ok (.iconst 1, 1) := by decide +kernel
theorem dX2_run_89 : decode cX2_run 89 = .ok (.if_icmp .ne 53, 3) := by decide +kernel
theorem dX2_run_92 : decode cX2_run 92 = .ok (.iload_n 3, 1) := by decide +kernel
theorem dX2_run_93 : decode cX2_run 93 = .ok (.bipush 24, 2) := by decide +kernel
theorem dX2_run_95 : decode cX2_run 95 = .ok (.if_icmp .ge 16, 3) := by decide +kernel
theorem dX2_run_98 : decode cX2_run 98 = .ok (.iload 6, 2) := by decide +kernel
theorem dX2_run_100 : decode cX2_run 100 = .ok (.iconst 1, 1) := by decide +kernel
theorem dX2_run_101 : decode cX2_run 101 = .ok (.if_icmp .ne 12, 3) := by decide +kernel
theorem dX2_run_104 : decode cX2_run 104 = .ok (.iload 7, 2) := by decide +kernel
theorem dX2_run_106 : decode cX2_run 106 = .ok (.bipush 9, 2) := by decide +kernel
theorem dX2_run_108 : decode cX2_run 108 = .ok (.if_icmp .lt 5, 3) := by decide +kernel
theorem dX2_run_111 : decode cX2_run 111 = .ok (.iconst 0, 1) := by decide +kernel
theorem dX2_run_112 : decode cX2_run 112 = .ok (.ireturn, 1) := by decide +kernel
theorem dX2_run_113 : decode cX2_run 113 = .ok (.aload_n 0, 1) := by decide +kernel
theorem dX2_run_114 : decode cX2_run 114 = .ok (.getfield 15, 3) := by decide +kernel
theorem dX2_run_117 : decode cX2_run 117 = .ok (.iload_n 3, 1) := by decide +kernel
theorem dX2_run_118 : decode cX2_run 118 = .ok (.iload 6, 2) := by decide +kernel
theorem dX2_run_120 : decode cX2_run 120 = .ok (.ifCond .ne 8, 3) := by decide +kernel
theorem dX2_run_123 : decode cX2_run 123 = .ok (.iload 7, 2) := by decide +kernel
theorem dX2_run_125 : decode cX2_run 125 = .ok (.goto 10, 3) := by decide +kernel
theorem dX2_run_128 : decode cX2_run 128 = .ok (.aload_n 0, 1) := by decide +kernel
theorem dX2_run_129 : decode cX2_run 129 = .ok (.getfield 11, 3) := by decide +kernel
theorem dX2_run_132 : decode cX2_run 132 = .ok (.iload 7, 2) := by decide +kernel
theorem dX2_run_134 : decode cX2_run 134 = .ok (.iaload, 1) := by decide +kernel
theorem dX2_run_135 : decode cX2_run 135 = .ok (.iastore, 1) := by decide +kernel
theorem dX2_run_136 : decode cX2_run 136 = .ok (.iinc 3 1, 3) := by decide +kernel
theorem dX2_run_139 : decode cX2_run 139 = .ok (.goto 181, 3) := by decide +kernel
theorem dX2_run_142 : decode cX2_run 142 = .ok (.iload_n 3, 1) := by decide +kernel
theorem dX2_run_143 : decode cX2_run 143 = .ok (.iconst 2, 1) := by decide +kernel
theorem dX2_run_144 : decode cX2_run 144 = .ok (.if_icmp .lt 21, 3) := by decide +kernel
theorem dX2_run_147 : decode cX2_run 147 = .ok (.iload 6, 2) := by decide +kernel
theorem dX2_run_149 : decode cX2_run 149 = .ok (.bipush 47, 2) := by decide +kernel
theorem dX2_run_151 : decode cX2_run 151 = .ok (.if_icmp .ne 16, 3) := by decide +kernel
theorem dX2_run_154 : decode cX2_run 154 = .ok (.aload_n 0, 1) := by decide +kernel
theorem dX2_run_155 : decode cX2_run 155 = .ok (.getfield 15, 3) := by decide +kernel
theorem dX2_run_158 : decode cX2_run 158 = .ok (.iload_n 3, 1) := by decide +kernel
theorem dX2_run_159 : decode cX2_run 159 = .ok (.iconst 1, 1) := by decide +kernel
theorem dX2_run_160 : decode cX2_run 160 = .ok (.isub, 1) := by decide +kernel
theorem dX2_run_161 : decode cX2_run 161 = .ok (.iaload, 1) := by decide +kernel
theorem dX2_run_162 : decode cX2_run 162 = .ok (.ifCond .ne 5, 3) := by decide +kernel
theorem dX2_run_165 : decode cX2_run 165 = .ok (.iconst 0, 1) := by decide +kernel
theorem dX2_run_166 : decode cX2_run 166 = .ok (.ireturn, 1) := by decide +kernel
theorem dX2_run_167 : decode cX2_run 167 = .ok (.iinc 3 (-1), 3) := by decide +kernel
theorem dX2_run_170 : decode cX2_run 170 = .ok (.aload_n 0, 1) := by decide +kernel
theorem dX2_run_171 : decode cX2_run 171 = .ok (.getfield 15, 3) := by decide +kernel
theorem dX2_run_174 : decode cX2_run 174 = .ok (.iload_n 3, 1) := by decide +kernel
theorem dX2_run_175 : decode cX2_run 175 = .ok (.iconst 1, 1) := by decide +kernel
theorem dX2_run_176 : decode cX2_run 176 = .ok (.isub, 1) := by decide +kernel
theorem dX2_run_177 : decode cX2_run 177 = .ok (.iaload, 1) := by decide +kernel
theorem dX2_run_178 : decode cX2_run 178 = .ok (.istore 8, 2) := by decide +kernel
theorem dX2_run_180 : decode cX2_run 180 = .ok (.aload_n 0, 1) := by decide +kernel
theorem dX2_run_181 : decode cX2_run 181 = .ok (.getfield 15, 3) := by decide +kernel
theorem dX2_run_184 : decode cX2_run 184 = .ok (.iload_n 3, 1) := by decide +kernel
theorem dX2_run_185 : decode cX2_run 185 = .ok (.iaload, 1) := by decide +kernel
theorem dX2_run_186 : decode cX2_run 186 = .ok (.istore 9, 2) := by decide +kernel
theorem dX2_run_188 : decode cX2_run 188 = .ok (.iload 6, 2) := by decide +kernel
theorem dX2_run_190 : decode cX2_run 190 = .ok (.tableswitch 111 42 47 #[70, 38, 111, 54, 111, 86], 38) := by decide +kernel
theorem dX2_run_228 : decode cX2_run 228 = .ok (.aload_n 0, 1) := by decide +kernel
theorem dX2_run_229 : decode cX2_run 229 = .ok (.getfield 15, 3) := by decide +kernel
theorem dX2_run_232 : decode cX2_run 232 = .ok (.iload_n 3, 1) := by decide +kernel
theorem dX2_run_233 : decode cX2_run 233 = .ok (.iconst 1, 1) := by decide +kernel
theorem dX2_run_234 : decode cX2_run 234 = .ok (.isub, 1) := by decide +kernel
theorem dX2_run_235 : decode cX2_run 235 = .ok (.iload 8, 2) := by decide +kernel
theorem dX2_run_237 : decode cX2_run 237 = .ok (.iload 9, 2) := by decide +kernel
theorem dX2_run_239 : decode cX2_run 239 = .ok (.iadd, 1) := by decide +kernel
theorem dX2_run_240 : decode cX2_run 240 = .ok (.iastore, 1) := by decide +kernel
theorem dX2_run_241 : decode cX2_run 241 = .ok (.goto 79, 3) := by decide +kernel
theorem dX2_run_244 : decode cX2_run 244 = .ok (.aload_n 0, 1) := by decide +kernel
theorem dX2_run_245 : decode cX2_run 245 = .ok (.getfield 15, 3) := by decide +kernel
theorem dX2_run_248 : decode cX2_run 248 = .ok (.iload_n 3, 1) := by decide +kernel
theorem dX2_run_249 : decode cX2_run 249 = .ok (.iconst 1, 1) := by decide +kernel
theorem dX2_run_250 : decode cX2_run 250 = .ok (.isub, 1) := by decide +kernel
theorem dX2_run_251 : decode cX2_run 251 = .ok (.iload 8, 2) := by decide +kernel
theorem dX2_run_253 : decode cX2_run 253 = .ok (.iload 9, 2) := by decide +kernel
theorem dX2_run_255 : decode cX2_run 255 = .ok (.isub, 1) := by decide +kernel
theorem dX2_run_256 : decode cX2_run 256 = .ok (.iastore, 1) := by decide +kernel
theorem dX2_run_257 : decode cX2_run 257 = .ok (.goto 63, 3) := by decide +kernel
theorem dX2_run_260 : decode cX2_run 260 = .ok (.aload_n 0, 1) := by decide +kernel
theorem dX2_run_261 : decode cX2_run 261 = .ok (.getfield 15, 3) := by decide +kernel
theorem dX2_run_264 : decode cX2_run 264 = .ok (.iload_n 3, 1) := by decide +kernel
theorem dX2_run_265 : decode cX2_run 265 = .ok (.iconst 1, 1) := by decide +kernel
theorem dX2_run_266 : decode cX2_run 266 = .ok (.isub, 1) := by decide +kernel
theorem dX2_run_267 : decode cX2_run 267 = .ok (.iload 8, 2) := by decide +kernel
theorem dX2_run_269 : decode cX2_run 269 = .ok (.iload 9, 2) := by decide +kernel
theorem dX2_run_271 : decode cX2_run 271 = .ok (.imul, 1) := by decide +kernel
theorem dX2_run_272 : decode cX2_run 272 = .ok (.iastore, 1) := by decide +kernel
theorem dX2_run_273 : decode cX2_run 273 = .ok (.goto 47, 3) := by decide +kernel
theorem dX2_run_276 : decode cX2_run 276 = .ok (.aload_n 0, 1) := by decide +kernel
theorem dX2_run_277 : decode cX2_run 277 = .ok (.getfield 15, 3) := by decide +kernel
theorem dX2_run_280 : decode cX2_run 280 = .ok (.iload_n 3, 1) := by decide +kernel
theorem dX2_run_281 : decode cX2_run 281 = .ok (.iconst 1, 1) := by decide +kernel
theorem dX2_run_282 : decode cX2_run 282 = .ok (.isub, 1) := by decide +kernel
theorem dX2_run_283 : decode cX2_run 283 = .ok (.iload 9, 2) := by decide +kernel
theorem dX2_run_285 : decode cX2_run 285 = .ok (.ifCond .ne 7, 3) := by decide +kernel
theorem dX2_run_288 : decode cX2_run 288 = .ok (.iconst 0, 1) := by decide +kernel
theorem dX2_run_289 : decode cX2_run 289 = .ok (.goto 8, 3) := by decide +kernel
theorem dX2_run_292 : decode cX2_run 292 = .ok (.iload 8, 2) := by decide +kernel
theorem dX2_run_294 : decode cX2_run 294 = .ok (.iload 9, 2) := by decide +kernel
theorem dX2_run_296 : decode cX2_run 296 = .ok (.idiv, 1) := by decide +kernel
theorem dX2_run_297 : decode cX2_run 297 = .ok (.iastore, 1) := by decide +kernel
theorem dX2_run_298 : decode cX2_run 298 = .ok (.goto 22, 3) := by decide +kernel
theorem dX2_run_301 : decode cX2_run 301 = .ok (.iinc 3 (-1), 3) := by decide +kernel
theorem dX2_run_304 : decode cX2_run 304 = .ok (.iload 8, 2) := by decide +kernel
theorem dX2_run_306 : decode cX2_run 306 = .ok (.iload 9, 2) := by decide +kernel
theorem dX2_run_308 : decode cX2_run 308 = .ok (.if_icmp .ge 8, 3) := by decide +kernel
theorem dX2_run_311 : decode cX2_run 311 = .ok (.iload 4, 2) := by decide +kernel
theorem dX2_run_313 : decode cX2_run 313 = .ok (.goto 5, 3) := by decide +kernel
theorem dX2_run_316 : decode cX2_run 316 = .ok (.iload 7, 2) := by decide +kernel
theorem dX2_run_318 : decode cX2_run 318 = .ok (.istore 4, 2) := by decide +kernel
theorem dX2_run_320 : decode cX2_run 320 = .ok (.iinc 5 1, 3) := by decide +kernel
theorem dX2_run_323 : decode cX2_run 323 = .ok (.goto (-315), 3) := by decide +kernel
theorem dX2_run_326 : decode cX2_run 326 = .ok (.iconst 0, 1) := by decide +kernel
theorem dX2_run_327 : decode cX2_run 327 = .ok (.ireturn, 1) := by decide +kernel
theorem dX3_init_0 : decode cX3_init 0 = .ok (.aload_n 0, 1) := by decide +kernel
theorem dX3_init_1 : decode cX3_init 1 = .ok (.invokespecial 3, 3) := by decide +kernel
theorem dX3_init_4 : decode cX3_init 4 = .ok (.aload_n 0, 1) := by decide +kernel
theorem dX3_init_5 : decode cX3_init 5 = .ok (.bipush 6, 2) := by decide +kernel
theorem dX3_init_7 : decode cX3_init 7 = .ok (.newarray .int, 2) := by decide +kernel
theorem dX3_init_9 : decode cX3_init 9 = .ok (.putfield 9, 3) := by decide +kernel
theorem dX3_init_12 : decode cX3_init 12 = .ok (.aload_n 0, 1) := by decide +kernel
theorem dX3_init_13 : decode cX3_init 13 = .ok (.bipush 6, 2) := by decide +kernel
theorem dX3_init_15 : decode cX3_init 15 = .ok (.newarray .int, 2) := by decide +kernel
theorem dX3_init_17 : decode cX3_init 17 = .ok (.putfield 15, 3) := by decide +kernel
theorem dX3_init_20 : decode cX3_init 20 = .ok (.aload_n 0, 1) := by decide +kernel
theorem dX3_init_21 : decode cX3_init 21 = .ok (.bipush 6, 2) := by decide +kernel
theorem dX3_init_23 : decode cX3_init 23 = .ok (.newarray .int, 2) := by decide +kernel
theorem dX3_init_25 : decode cX3_init 25 = .ok (.putfield 18, 3) := by decide +kernel
theorem dX3_init_28 : decode cX3_init 28 = .ok (.aload_n 0, 1) := by decide +kernel
theorem dX3_init_29 : decode cX3_init 29 = .ok (.bipush 6, 2) := by decide +kernel
theorem dX3_init_31 : decode cX3_init 31 = .ok (.newarray .int, 2) := by decide +kernel
theorem dX3_init_33 : decode cX3_init 33 = .ok (.putfield 21, 3) := by decide +kernel
theorem dX3_init_36 : decode cX3_init 36 = .ok (.aload_n 0, 1) := by decide +kernel
theorem dX3_init_37 : decode cX3_init 37 = .ok (.iconst 5, 1) := by decide +kernel
theorem dX3_init_38 : decode cX3_init 38 = .ok (.newarray .int, 2) := by decide +kernel
theorem dX3_init_40 : decode cX3_init 40 = .ok (.putfield 24, 3) := by decide +kernel
theorem dX3_init_43 : decode cX3_init 43 = .ok (.aload_n 0, 1) := by decide +kernel
theorem dX3_init_44 : decode cX3_init 44 = .ok (.iconst 5, 1) := by decide +kernel
theorem dX3_init_45 : decode cX3_init 45 = .ok (.newarray .int, 2) := by decide +kernel
theorem dX3_init_47 : decode cX3_init 47 = .ok (.putfield 27, 3) := by decide +kernel
theorem dX3_init_50 : decode cX3_init 50 = .ok (.aload_n 0, 1) := by decide +kernel
theorem dX3_init_51 : decode cX3_init 51 = .ok (.aload_n 1, 1) := by decide +kernel
theorem dX3_init_52 : decode cX3_init 52 = .ok (.putfield 30, 3) := by decide +kernel
theorem dX3_init_55 : decode cX3_init 55 = .ok (.return_, 1) := by decide +kernel
theorem dX3_begin_0 : decode cX3_begin 0 = .ok (.aload_n 0, 1) := by decide +kernel
theorem dX3_begin_1 : decode cX3_begin 1 = .ok (.aload_n 1, 1) := by decide +kernel
theorem dX3_begin_2 : decode cX3_begin 2 = .ok (.putfield 30, 3) := by decide +kernel
theorem dX3_begin_5 : decode cX3_begin 5 = .ok (.aload_n 0, 1) := by decide +kernel
theorem dX3_begin_6 : decode cX3_begin 6 = .ok (.iconst 0, 1) := by decide +kernel
theorem dX3_begin_7 : decode cX3_begin 7 = .ok (.putfield 34, 3) := by decide +kernel
theorem dX3_begin_10 : decode cX3_begin 10 = .ok (.aload_n 0, 1) := by decide +kernel
theorem dX3_begin_11 : decode cX3_begin 11 = .ok (.aload_n 1, 1) := by decide +kernel
theorem dX3_begin_12 : decode cX3_begin 12 = .ok (.getfield 38, 3) := by decide +kernel
theorem dX3_begin_15 : decode cX3_begin 15 = .ok (.putfield 43, 3) := by decide +kernel
theorem dX3_begin_18 : decode cX3_begin 18 = .ok (.aload_n 0, 1) := by decide +kernel
theorem dX3_begin_19 : decode cX3_begin 19 = .ok (.iconst 0, 1) := by decide +kernel
theorem dX3_begin_20 : decode cX3_begin 20 = .ok (.putfield 44, 3) := by decide +kernel
theorem dX3_begin_23 : decode cX3_begin 23 = .ok (.aload_n 0, 1) := by decide +kernel
theorem dX3_begin_24 : decode cX3_begin 24 = .ok (.iconst 0, 1) := by decide +kernel
theorem dX3_begin_25 : decode cX3_begin 25 = .ok (.putfield 47, 3) := by decide +kernel
theorem dX3_begin_28 : decode cX3_begin 28 = .ok (.aload_n 0, 1) := by decide +kernel
theorem dX3_begin_29 : decode cX3_begin 29 = .ok (.getfield 15, 3) := by decide +kernel
theorem dX3_begin_32 : decode cX3_begin 32 = .ok (.iconst 0, 1) := by decide +kernel
theorem dX3_begin_33 : decode cX3_begin 33 = .ok (.invokestatic 50, 3) := by decide +kernel
theorem dX3_begin_36 : decode cX3_begin 36 = .ok (.aload_n 0, 1) := by decide +kernel
theorem dX3_begin_37 : decode cX3_begin 37 = .ok (.getfield 18, 3) := by decide +kernel
theorem dX3_begin_40 : decode cX3_begin 40 = .ok (.iconst 0, 1) := by decide +kernel
theorem dX3_begin_41 : decode cX3_begin 41 = .ok (.invokestatic 50, 3) := by decide +kernel
theorem dX3_begin_44 : decode cX3_begin 44 = .ok (.aload_n 0, 1) := by decide +kernel
theorem dX3_begin_45 : decode cX3_begin 45 = .ok (.getfield 21, 3) := by decide +kernel
theorem dX3_begin_48 : decode cX3_begin 48 = .ok (.iconst 0, 1) := by decide +kernel
theorem dX3_begin_49 : decode cX3_begin 49 = .ok (.invokestatic 50, 3) := by decide +kernel
theorem dX3_begin_52 : decode cX3_begin 52 = .ok (.aload_n 0, 1) := by decide +kernel
theorem dX3_begin_53 : decode cX3_begin 53 = .ok (.getfield 24, 3) := by decide +kernel
theorem dX3_begin_56 : decode cX3_begin 56 = .ok (.iconst 0, 1) := by decide +kernel
theorem dX3_begin_57 : decode cX3_begin 57 = .ok (.invokestatic 50, 3) := by decide +kernel
theorem dX3_begin_60 : decode cX3_begin 60 = .ok (.aload_n 0, 1) := by decide +kernel
theorem dX3_begin_61 : decode cX3_begin 61 = .ok (.getfield 27, 3) := by decide +kernel
theorem dX3_begin_64 : decode cX3_begin 64 = .ok (.iconst 0, 1) := by decide +kernel
theorem dX3_begin_65 : decode cX3_begin 65 = .ok (.invokestatic 50, 3) := by decide +kernel
theorem dX3_begin_68 : decode cX3_begin 68 = .ok (.aload_n 1, 1) := by decide +kernel
theorem dX3_begin_69 : decode cX3_begin 69 = .ok (.getfield 56, 3) := by decide +kernel
theorem dX3_begin_72 : decode cX3_begin 72 = .ok (.iconst 0, 1) := by decide +kernel
theorem dX3_begin_73 : decode cX3_begin 73 = .ok (.aload_n 0, 1) := by decide +kernel
theorem dX3_begin_74 : decode cX3_begin 74 = .ok (.getfield 9, 3) := by decide +kernel
theorem dX3_begin_77 : decode cX3_begin 77 = .ok (.iconst 0, 1) := by decide +kernel
theorem dX3_begin_78 : decode cX3_begin 78 = .ok (.bipush 6, 2) := by decide +kernel
theorem dX3_begin_80 : decode cX3_begin 80 = .ok (.invokestatic 59, 3) := by decide +kernel
theorem dX3_begin_83 : decode cX3_begin 83 = .ok (.aload_n 1, 1) := by decide +kernel
theorem dX3_begin_84 : decode cX3_begin 84 = .ok (.getfield 65, 3) := by decide +kernel
theorem dX3_begin_87 : decode cX3_begin 87 = .ok (.iconst 0, 1) := by decide +kernel
theorem dX3_begin_88 : decode cX3_begin 88 = .ok (.aload_n 0, 1) := by decide +kernel
theorem dX3_begin_89 : decode cX3_begin 89 = .ok (.getfield 24, 3) := by decide +kernel
theorem dX3_begin_92 : decode cX3_begin 92 = .ok (.iconst 0, 1) := by decide +kernel
theorem dX3_begin_93 : decode cX3_begin 93 = .ok (.aload_n 1, 1) := by decide +kernel
theorem dX3_begin_94 : decode cX3_begin 94 = .ok (.getfield 68, 3) := by decide +kernel
theorem dX3_begin_97 : decode cX3_begin 97 = .ok (.invokestatic 59, 3) := by decide +kernel
theorem dX3_begin_100 : decode cX3_begin 100 = .ok (.return_, 1) := by decide +kernel
theorem dX3_copyFrom_0 : decode cX3_copyFrom 0 = .ok (.aload_n 0, 1) := by decide +kernel
theorem dX3_copyFrom_1 : decode cX3_copyFrom 1 = .ok (.aload_n 1, 1) := by decide +kernel
theorem dX3_copyFrom_2 : decode cX3_copyFrom 2 = .ok (.getfield 30, 3) := by decide +kernel
theorem dX3_copyFrom_5 : decode cX3_copyFrom 5 = .ok (.putfield 30, 3) := by decide +kernel
theorem dX3_copyFrom_8 : decode cX3_copyFrom 8 = .ok (.aload_n 0, 1) := by decide +kernel
theorem dX3_copyFrom_9 : decode cX3_copyFrom 9 = .ok (.aload_n 1, 1) := by decide +kernel
theorem dX3_copyFrom_10 : decode cX3_copyFrom 10 = .ok (.getfield 34, 3) := by decide +kernel
theorem dX3_copyFrom_13 : decode cX3_copyFrom 13 = .ok (.putfield 34, 3) := by decide +kernel
theorem dX3_copyFrom_16 : decode cX3_copyFrom 16 = .ok (.aload_n 0, 1) := by decide +kernel
theorem dX3_copyFrom_17 : decode cX3_copyFrom 17 = .ok (.aload_n 1, 1) := by decide +kernel
theorem dX3_copyFrom_18 : decode cX3_copyFrom 18 = .ok (.getfield 43, 3) := by decide +kernel
theorem dX3_copyFrom_21 : decode cX3_copyFrom 21 = .ok (.putfield 43, 3) := by decide +kernel
theorem dX3_copyFrom_24 : decode cX3_copyFrom 24 = .ok (.aload_n 0, 1) := by decide +kernel
theorem dX3_copyFrom_25 : decode cX3_copyFrom 25 = .ok (.aload_n 1, 1) := by decide +kernel
theorem dX3_copyFrom_26 : decode cX3_copyFrom 26 = .ok (.getfield 44, 3) := by decide +kernel
theorem dX3_copyFrom_29 : decode cX3_copyFrom 29 = .ok (.putfield 44, 3) := by decide +kernel
theorem dX3_copyFrom_32 : decode cX3_copyFrom 32 = .ok (.aload_n 0, 1) := by decide +kernel
theorem dX3_copyFrom_33 : decode cX3_copyFrom 33 = .ok (.aload_n 1, 1) := by decide +kernel
theorem dX3_copyFrom_34 : decode cX3_copyFrom 34 = .ok (.getfield 47, 3) := by decide +kernel
theorem dX3_copyFrom_37 : decode cX3_copyFrom 37 = .ok (.putfield 47, 3) := by decide +kernel
theorem dX3_copyFrom_40 : decode cX3_copyFrom 40 = .ok (.aload_n 1, 1) := by decide +kernel
theorem dX3_copyFrom_41 : decode cX3_copyFrom 41 = .ok (.getfield 9, 3) := by decide +kernel
theorem dX3_copyFrom_44 : decode cX3_copyFrom 44 = .ok (.iconst 0, 1) := by decide +kernel
theorem dX3_copyFrom_45 : decode cX3_copyFrom 45 = .ok (.aload_n 0, 1) := by decide +kernel
theorem dX3_copyFrom_46 : decode cX3_copyFrom 46 = .ok (.getfield 9, 3) := by decide +kernel
theorem dX3_copyFrom_49 : decode cX3_copyFrom 49 = .ok (.iconst 0, 1) := by decide +kernel
theorem dX3_copyFrom_50 : decode cX3_copyFrom 50 = .ok (.bipush 6, 2) := by decide +kernel
theorem dX3_copyFrom_52 : decode cX3_copyFrom 52 = .ok (.invokestatic 59, 3) := by decide +kernel
theorem dX3_copyFrom_55 : decode cX3_copyFrom 55 = .ok (.aload_n 1, 1) := by decide +kernel
theorem dX3_copyFrom_56 : decode cX3_copyFrom 56 = .ok (.getfield 15, 3) := by decide +kernel
theorem dX3_copyFrom_59 : decode cX3_copyFrom 59 = .ok (.iconst 0, 1) := by decide +kernel
theorem dX3_copyFrom_60 : decode cX3_copyFrom 60 = .ok (.aload_n 0, 1) := by decide +kernel
theorem dX3_copyFrom_61 : decode cX3_copyFrom 61 = .ok (.getfield 15, 3) := by decide +kernel
theorem dX3_copyFrom_64 : decode cX3_copyFrom 64 = .ok (.iconst 0, 1) := by decide +kernel
theorem dX3_copyFrom_65 : decode cX3_copyFrom 65 = .ok (.bipush 6, 2) := by decide +kernel
theorem dX3_copyFrom_67 : decode cX3_copyFrom 67 = .ok (.invokestatic 59, 3) := by decide +kernel
theorem dX3_copyFrom_70 : decode cX3_copyFrom 70 = .ok (.aload_n 1, 1) := by decide +kernel
theorem dX3_copyFrom_71 : decode cX3_copyFrom 71 = .ok (.getfield 18, 3) := by decide +kernel
theorem dX3_copyFrom_74 : decode cX3_copyFrom 74 = .ok (.iconst 0, 1) := by decide +kernel
theorem dX3_copyFrom_75 : decode cX3_copyFrom 75 = .ok (.aload_n 0, 1) := by decide +kernel
theorem dX3_copyFrom_76 : decode cX3_copyFrom 76 = .ok (.getfield 18, 3) := by decide +kernel
theorem dX3_copyFrom_79 : decode cX3_copyFrom 79 = .ok (.iconst 0, 1) := by decide +kernel
theorem dX3_copyFrom_80 : decode cX3_copyFrom 80 = .ok (.bipush 6, 2) := by decide +kernel
theorem dX3_copyFrom_82 : decode cX3_copyFrom 82 = .ok (.invokestatic 59, 3) := by decide +kernel
theorem dX3_copyFrom_85 : decode cX3_copyFrom 85 = .ok (.aload_n 1, 1) := by decide +kernel
theorem dX3_copyFrom_86 : decode cX3_copyFrom 86 = .ok (.getfield 21, 3) := by decide +kernel
theorem dX3_copyFrom_89 : decode cX3_copyFrom 89 = .ok (.iconst 0, 1) := by decide +kernel
theorem dX3_copyFrom_90 : decode cX3_copyFrom 90 = .ok (.aload_n 0, 1) := by decide +kernel
theorem dX3_copyFrom_91 : decode cX3_copyFrom 91 = .ok (.getfield 21, 3) := by decide +kernel
theorem dX3_copyFrom_94 : decode cX3_copyFrom 94 = .ok (.iconst 0, 1) := by decide +kernel
theorem dX3_copyFrom_95 : decode cX3_copyFrom 95 = .ok (.bipush 6, 2) := by decide +kernel
theorem dX3_copyFrom_97 : decode cX3_copyFrom 97 = .ok (.invokestatic 59, 3) := by decide +kernel
theorem dX3_copyFrom_100 : decode cX3_copyFrom 100 = .ok (.aload_n 1, 1) := by decide +kernel
theorem dX3_copyFrom_101 : decode cX3_copyFrom 101 = .ok (.getfield 24, 3) := by decide +kernel
theorem dX3_copyFrom_104 : decode cX3_copyFrom 104 = .ok (.iconst 0, 1) := by decide +kernel
theorem dX3_copyFrom_105 : decode cX3_copyFrom 105 = .ok (.aload_n 0, 1) := by decide +kernel
theorem dX3_copyFrom_106 : decode cX3_copyFrom 106 = .ok (.getfield 24, 3) := by decide +kernel
theorem dX3_copyFrom_109 : decode cX3_copyFrom 109 = .ok (.iconst 0, 1) := by decide +kernel
theorem dX3_copyFrom_110 : decode cX3_copyFrom 110 = .ok (.iconst 5, 1) := by decide +kernel
theorem dX3_copyFrom_111 : decode cX3_copyFrom 111 = .ok (.invokestatic 59, 3) := by decide +kernel
theorem dX3_copyFrom_114 : decode cX3_copyFrom 114 = .ok (.aload_n 1, 1) := by decide +kernel
theorem dX3_copyFrom_115 : decode cX3_copyFrom 115 = .ok (.getfield 27, 3) := by decide +kernel
theorem dX3_copyFrom_118 : decode cX3_copyFrom 118 = .ok (.iconst 0, 1) := by decide +kernel
theorem dX3_copyFrom_119 : decode cX3_copyFrom 119 = .ok (.aload_n 0, 1) := by decide +kernel
theorem dX3_copyFrom_120 : decode cX3_copyFrom 120 = .ok (.getfield 27, 3) := by decide +kernel
theorem dX3_copyFrom_123 : decode cX3_copyFrom 123 = .ok (.iconst 0, 1) := by decide +kernel
theorem dX3_copyFrom_124 : decode cX3_copyFrom 124 = .ok (.iconst 5, 1) := by decide +kernel
theorem dX3_copyFrom_125 : decode cX3_copyFrom 125 = .ok (.invokestatic 59, 3) := by decide +kernel
theorem dX3_copyFrom_128 : decode cX3_copyFrom 128 = .ok (.return_, 1) := by decide +kernel
theorem dX3_isHome_0 : decode cX3_isHome 0 = .ok (.aload_n 0, 1) := by decide +kernel
theorem dX3_isHome_1 : decode cX3_isHome 1 = .ok (.getfield 44, 3) := by decide +kernel
theorem dX3_isHome_4 : decode cX3_isHome 4 = .ok (.iload_n 1, 1) := by decide +kernel
theorem dX3_isHome_5 : decode cX3_isHome 5 = .ok (.ishr, 1) := by decide +kernel
theorem dX3_isHome_6 : decode cX3_isHome 6 = .ok (.iconst 1, 1) := by decide +kernel
theorem dX3_isHome_7 : decode cX3_isHome 7 = .ok (.iand, 1) := by decide +kernel
theorem dX3_isHome_8 : decode cX3_isHome 8 = .ok (.iconst 1, 1) := by decide +kernel
theorem dX3_isHome_9 : decode cX3_isHome 9 = .ok (.if_icmp .ne 7, 3) := by decide +kernel
theorem dX3_isHome_12 : decode cX3_isHome 12 = .ok (.iconst 1, 1) := by decide +kernel
theorem dX3_isHome_13 : decode cX3_isHome 13 = .ok (.goto 4, 3) := by decide +kernel
theorem dX3_isHome_16 : decode cX3_isHome 16 = .ok (.iconst 0, 1) := by decide +kernel
theorem dX3_isHome_17 : decode cX3_isHome 17 = .ok (.ireturn, 1) := by decide +kernel
theorem dX3_since_0 : decode cX3_since 0 = .ok (.aload_n 0, 1) := by decide +kernel
theorem dX3_since_1 : decode cX3_since 1 = .ok (.getfield 34, 3) := by decide +kernel
theorem dX3_since_4 : decode cX3_since 4 = .ok (.aload_n 0, 1) := by decide +kernel
theorem dX3_since_5 : decode cX3_since 5 = .ok (.getfield 21, 3) := by decide +kernel
theorem dX3_since_8 : decode cX3_since 8 = .ok (.iload_n 1, 1) := by decide +kernel
theorem dX3_since_9 : decode cX3_since 9 = .ok (.iaload, 1) := by decide +kernel
theorem dX3_since_10 : decode cX3_since 10 = .ok (.isub, 1) := by decide +kernel
theorem dX3_since_11 : decode cX3_since 11 = .ok (.ireturn, 1) := by decide +kernel
theorem dX3_lightAt_0 : decode cX3_lightAt 0 = .ok (.iconst 0, 1) := by decide +kernel
theorem dX3_lightAt_1 : decode cX3_lightAt 1 = .ok (.istore_n 2, 1) := by decide +kernel
theorem dX3_lightAt_2 : decode cX3_lightAt 2 = .ok (.iconst 0, 1) := by decide +kernel
theorem dX3_lightAt_3 : decode cX3_lightAt 3 = .ok (.istore_n 3, 1) := by decide +kernel
theorem dX3_lightAt_4 : decode cX3_lightAt 4 = .ok (.iload_n 3, 1) := by decide +kernel
theorem dX3_lightAt_5 : decode cX3_lightAt 5 = .ok (.aload_n 0, 1) := by decide +kernel
theorem dX3_lightAt_6 : decode cX3_lightAt 6 = .ok (.getfield 30, 3) := by decide +kernel
theorem dX3_lightAt_9 : decode cX3_lightAt 9 = .ok (.getfield 71, 3) := by decide +kernel
theorem dX3_lightAt_12 : decode cX3_lightAt 12 = .ok (.if_icmp .ge 28, 3) := by decide +kernel
theorem dX3_lightAt_15 : decode cX3_lightAt 15 = .ok (.aload_n 0, 1) := by decide +kernel
theorem dX3_lightAt_16 : decode cX3_lightAt 16 = .ok (.getfield 9, 3) := by decide +kernel
theorem dX3_lightAt_19 : decode cX3_lightAt 19 = .ok (.iload_n 3, 1) := by decide +kernel
theorem dX3_lightAt_20 : decode cX3_lightAt 20 = .ok (.iaload, 1) := by decide +kernel
theorem dX3_lightAt_21 : decode cX3_lightAt 21 = .ok (.iload_n 1, 1) := by decide +kernel
theorem dX3_lightAt_22 : decode cX3_lightAt 22 = .ok (.if_icmp .ne 12, 3) := by decide +kernel
theorem dX3_lightAt_25 : decode cX3_lightAt 25 = .ok (.iload_n 2, 1) := by decide +kernel
theorem dX3_lightAt_26 : decode cX3_lightAt 26 = .ok (.aload_n 0, 1) := by decide +kernel
theorem dX3_lightAt_27 : decode cX3_lightAt 27 = .ok (.getfield 15, 3) := by decide +kernel
theorem dX3_lightAt_30 : decode cX3_lightAt 30 = .ok (.iload_n 3, 1) := by decide +kernel
theorem dX3_lightAt_31 : decode cX3_lightAt 31 = .ok (.iaload, 1) := by decide +kernel
theorem dX3_lightAt_32 : decode cX3_lightAt 32 = .ok (.iadd, 1) := by decide +kernel
theorem dX3_lightAt_33 : decode cX3_lightAt 33 = .ok (.istore_n 2, 1) := by decide +kernel
theorem dX3_lightAt_34 : decode cX3_lightAt 34 = .ok (.iinc 3 1, 3) := by decide +kernel
theorem dX3_lightAt_37 : decode cX3_lightAt 37 = .ok (.goto (-33), 3) := by decide +kernel
theorem dX3_lightAt_40 : decode cX3_lightAt 40 = .ok (.iload_n 2, 1) := by decide +kernel
theorem dX3_lightAt_41 : decode cX3_lightAt 41 = .ok (.ireturn, 1) := by decide +kernel
theorem dX3_whoIsAt_0 : decode cX3_whoIsAt 0 = .ok (.iconst 0, 1) := by decide +kernel
theorem dX3_whoIsAt_1 : decode cX3_whoIsAt 1 = .ok (.istore_n 2, 1) := by decide +kernel
theorem dX3_whoIsAt_2 : decode cX3_whoIsAt 2 = .ok (.iconst 0, 1) := by decide +kernel
theorem dX3_whoIsAt_3 : decode cX3_whoIsAt 3 = .ok (.istore_n 3, 1) := by decide +kernel
theorem dX3_whoIsAt_4 : decode cX3_whoIsAt 4 = .ok (.iload_n 3, 1) := by decide +kernel
theorem dX3_whoIsAt_5 : decode cX3_whoIsAt 5 = .ok (.aload_n 0, 1) := by decide +kernel
theorem dX3_whoIsAt_6 : decode cX3_whoIsAt 6 = .ok (.getfield 30, 3) := by decide +kernel
theorem dX3_whoIsAt_9 : decode cX3_whoIsAt 9 = .ok (.getfield 71, 3) := by decide +kernel
theorem dX3_whoIsAt_12 : decode cX3_whoIsAt 12 = .ok (.if_icmp .ge 33, 3) := by decide +kernel
theorem dX3_whoIsAt_15 : decode cX3_whoIsAt 15 = .ok (.aload_n 0, 1) := by decide +kernel
theorem dX3_whoIsAt_16 : decode cX3_whoIsAt 16 = .ok (.getfield 9, 3) := by decide +kernel
theorem dX3_whoIsAt_19 : decode cX3_whoIsAt 19 = .ok (.iload_n 3, 1) := by decide +kernel
theorem dX3_whoIsAt_20 : decode cX3_whoIsAt 20 = .ok (.iaload, 1) := by decide +kernel
theorem dX3_whoIsAt_21 : decode cX3_whoIsAt 21 = .ok (.iload_n 1, 1) := by decide +kernel
theorem dX3_whoIsAt_22 : decode cX3_whoIsAt 22 = .ok (.if_icmp .ne 17, 3) := by decide +kernel
theorem dX3_whoIsAt_25 : decode cX3_whoIsAt 25 = .ok (.aload_n 0, 1) := by decide +kernel
theorem dX3_whoIsAt_26 : decode cX3_whoIsAt 26 = .ok (.iload_n 3, 1) := by decide +kernel
theorem dX3_whoIsAt_27 : decode cX3_whoIsAt 27 = .ok (.invokevirtual 74, 3) := by decide +kernel
theorem dX3_whoIsAt_30 : decode cX3_whoIsAt 30 = .ok (.ifCond .ne 9, 3) := by decide +kernel
theorem dX3_whoIsAt_33 : decode cX3_whoIsAt 33 = .ok (.iload_n 2, 1) := by decide +kernel
theorem dX3_whoIsAt_34 : decode cX3_whoIsAt 34 = .ok (.iconst 1, 1) := by decide +kernel
theorem dX3_whoIsAt_35 : decode cX3_whoIsAt 35 = .ok (.iload_n 3, 1) := by decide +kernel
theorem dX3_whoIsAt_36 : decode cX3_whoIsAt 36 = .ok (.ishl, 1) := by decide +kernel
theorem dX3_whoIsAt_37 : decode cX3_whoIsAt 37 = .ok (.ior, 1) := by decide +kernel
theorem dX3_whoIsAt_38 : decode cX3_whoIsAt 38 = .ok (.istore_n 2, 1) := by decide +kernel
theorem dX3_whoIsAt_39 : decode cX3_whoIsAt 39 = .ok (.iinc 3 1, 3) := by decide +kernel
theorem dX3_whoIsAt_42 : decode cX3_whoIsAt 42 = .ok (.goto (-38), 3) := by decide +kernel
theorem dX3_whoIsAt_45 : decode cX3_whoIsAt 45 = .ok (.iload_n 2, 1) := by decide +kernel
theorem dX3_whoIsAt_46 : decode cX3_whoIsAt 46 = .ok (.ireturn, 1) := by decide +kernel
theorem dX3_cornersInUse_0 : decode cX3_cornersInUse 0 = .ok (.iconst 0, 1) := by decide +kernel
theorem dX3_cornersInUse_1 : decode cX3_cornersInUse 1 = .ok (.istore_n 1, 1) := by decide +kernel
theorem dX3_cornersInUse_2 : decode cX3_cornersInUse 2 = .ok (.iconst 0, 1) := by decide +kernel
theorem dX3_cornersInUse_3 : decode cX3_cornersInUse 3 = .ok (.istore_n 2, 1) := by decide +kernel
theorem dX3_cornersInUse_4 : decode cX3_cornersInUse 4 = .ok (.iload_n 2, 1) := by decide +kernel
theorem dX3_cornersInUse_5 : decode cX3_cornersInUse 5 = .ok (.aload_n 0, 1) := by decide +kernel
theorem dX3_cornersInUse_6 : decode cX3_cornersInUse 6 = .ok (.getfield 30, 3) := by decide +kernel
theorem dX3_cornersInUse_9 : decode cX3_cornersInUse 9 = .ok (.getfield 71, 3) := by decide +kernel
theorem dX3_cornersInUse_12 : decode cX3_cornersInUse 12 = .ok (.if_icmp .ge 28, 3) := by decide +kernel
theorem dX3_cornersInUse_15 : decode cX3_cornersInUse 15 = .ok (.aload_n 0, 1) := by decide +kernel
theorem dX3_cornersInUse_16 : decode cX3_cornersInUse 16 = .ok (.iload_n 2, 1) := by decide +kernel
theorem dX3_cornersInUse_17 : decode cX3_cornersInUse 17 = .ok (.invokevirtual 74, 3) := by decide +kernel
theorem dX3_cornersInUse_20 : decode cX3_cornersInUse 20 = .ok (.ifCond .ne 14, 3) := by decide +kernel
theorem dX3_cornersInUse_23 : decode cX3_cornersInUse 23 = .ok (.iload_n 1, 1) := by decide +kernel
theorem dX3_cornersInUse_24 : decode cX3_cornersInUse 24 = .ok (.iconst 1, 1) := by decide +kernel
theorem dX3_cornersInUse_25 : decode cX3_cornersInUse 25 = .ok (.aload_n 0, 1) := by decide +kernel
theorem dX3_cornersInUse_26 : decode cX3_cornersInUse 26 = .ok (.getfield 9, 3) := by decide +kernel
theorem dX3_cornersInUse_29 : decode cX3_cornersInUse 29 = .ok (.iload_n 2, 1) := by decide +kernel
theorem dX3_cornersInUse_30 : decode cX3_cornersInUse 30 = .ok (.iaload, 1) := by decide +kernel
theorem dX3_cornersInUse_31 : decode cX3_cornersInUse 31 = .ok (.ishl, 1) := by decide +kernel
theorem dX3_cornersInUse_32 : decode cX3_cornersInUse 32 = .ok (.ior, 1) := by decide +kernel
theorem dX3_cornersInUse_33 : decode cX3_cornersInUse 33 = .ok (.istore_n 1, 1) := by decide +kernel
theorem dX3_cornersInUse_34 : decode cX3_cornersInUse 34 = .ok (.iinc 2 1, 3) := by decide +kernel
theorem dX3_cornersInUse_37 : decode cX3_cornersInUse 37 = .ok (.goto (-33), 3) := by decide +kernel
theorem dX3_cornersInUse_40 : decode cX3_cornersInUse 40 = .ok (.iload_n 1, 1) := by decide +kernel
theorem dX3_cornersInUse_41 : decode cX3_cornersInUse 41 = .ok (.ireturn, 1) := by decide +kernel
theorem dX3_firstOut_0 : decode cX3_firstOut 0 = .ok (.iconst 0, 1) := by decide +kernel
theorem dX3_firstOut_1 : decode cX3_firstOut 1 = .ok (.istore_n 1, 1) := by decide +kernel
theorem dX3_firstOut_2 : decode cX3_firstOut 2 = .ok (.iload_n 1, 1) := by decide +kernel
theorem dX3_firstOut_3 : decode cX3_firstOut 3 = .ok (.aload_n 0, 1) := by decide +kernel
theorem dX3_firstOut_4 : decode cX3_firstOut 4 = .ok (.getfield 30, 3) := by decide +kernel
theorem dX3_firstOut_7 : decode cX3_firstOut 7 = .ok (.getfield 71, 3) := by decide +kernel
theorem dX3_firstOut_10 : decode cX3_firstOut 10 = .ok (.if_icmp .ge 19, 3) := by decide +kernel
theorem dX3_firstOut_13 : decode cX3_firstOut 13 = .ok (.aload_n 0, 1) := by decide +kernel
theorem dX3_firstOut_14 : decode cX3_firstOut 14 = .ok (.iload_n 1, 1) := by decide +kernel
theorem dX3_firstOut_15 : decode cX3_firstOut 15 = .ok (.invokevirtual 74, 3) := by decide +kernel
theorem dX3_firstOut_18 : decode cX3_firstOut 18 = .ok (.ifCond .ne 5, 3) := by decide +kernel
theorem dX3_firstOut_21 : decode cX3_firstOut 21 = .ok (.iload_n 1, 1) := by decide +kernel
theorem dX3_firstOut_22 : decode cX3_firstOut 22 = .ok (.ireturn, 1) := by decide +kernel
theorem dX3_firstOut_23 : decode cX3_firstOut 23 = .ok (.iinc 1 1, 3) := by decide +kernel
theorem dX3_firstOut_26 : decode cX3_firstOut 26 = .ok (.goto (-24), 3) := by decide +kernel
theorem dX3_firstOut_29 : decode cX3_firstOut 29 = .ok (.iconst (-1), 1) := by decide +kernel
theorem dX3_firstOut_30 : decode cX3_firstOut 30 = .ok (.ireturn, 1) := by decide +kernel
theorem dX3_lightestCorner_0 : decode cX3_lightestCorner 0 = .ok (.iconst 0, 1) := by decide +kernel
theorem dX3_lightestCorner_1 : decode cX3_lightestCorner 1 = .ok (.istore_n 1, 1) := by decide +kernel
theorem dX3_lightestCorner_2 : decode cX3_lightestCorner 2 = .ok (.iconst 1, 1) := by decide +kernel
theorem dX3_lightestCorner_3 : decode cX3_lightestCorner 3 = .ok (.istore_n 2, 1) := by decide +kernel
theorem dX3_lightestCorner_4 : decode cX3_lightestCorner 4 = .ok (.iload_n 2, 1) := by decide +kernel
theorem dX3_lightestCorner_5 : decode cX3_lightestCorner 5 = .ok (.aload_n 0, 1) := by decide +kernel
theorem dX3_lightestCorner_6 : decode cX3_lightestCorner 6 = .ok (.getfield 30, 3) := by decide +kernel
theorem dX3_lightestCorner_9 : decode cX3_lightestCorner 9 = .ok (.getfield 78, 3) := by decide +kernel
theorem dX3_lightestCorner_12 : decode cX3_lightestCorner 12 = .ok (.if_icmp .ge 24, 3) := by decide +kernel
theorem dX3_lightestCorner_15 : decode cX3_lightestCorner 15 = .ok (.aload_n 0, 1) := by decide +kernel
theorem dX3_lightestCorner_16 : decode cX3_lightestCorner 16 = .ok (.iload_n 2, 1) := by decide +kernel
theorem dX3_lightestCorner_17 : decode cX3_lightestCorner 17 = .ok (.invokevirtual 81, 3) := by decide +kernel
theorem dX3_lightestCorner_20 : decode cX3_lightestCorner 20 = .ok (.aload_n 0, 1) := by decide +kernel
theorem dX3_lightestCorner_21 : decode cX3_lightestCorner 21 = .ok (.iload_n 1, 1) := by decide +kernel
theorem dX3_lightestCorner_22 : decode cX3_lightestCorner 22 = .ok (.invokevirtual 81, 3) := by decide +kernel
theorem dX3_lightestCorner_25 : decode cX3_lightestCorner 25 = .ok (.if_icmp .le 5, 3) := by decide +kernel
theorem dX3_lightestCorner_28 : decode cX3_lightestCorner 28 = .ok (.iload_n 2, 1) := by decide +kernel
theorem dX3_lightestCorner_29 : decode cX3_lightestCorner 29 = .ok (.istore_n 1, 1) := by decide +kernel
theorem dX3_lightestCorner_30 : decode cX3_lightestCorner 30 = .ok (.iinc 2 1, 3) := by decide +kernel
theorem dX3_lightestCorner_33 : decode cX3_lightestCorner 33 = .ok (.goto (-29), 3) := by decide +kernel
theorem dX3_lightestCorner_36 : decode cX3_lightestCorner 36 = .ok (.iload_n 1, 1) := by decide +kernel
theorem dX3_lightestCorner_37 : decode cX3_lightestCorner 37 = .ok (.ireturn, 1) := by decide +kernel
theorem dX3_needsOf_0 : decode cX3_needsOf 0 = .ok (.iconst 0, 1) := by decide +kernel
theorem dX3_needsOf_1 : decode cX3_needsOf 1 = .ok (.aload_n 0, 1) := by decide +kernel
theorem dX3_needsOf_2 : decode cX3_needsOf 2 = .ok (.getfield 30, 3) := by decide +kernel
theorem dX3_needsOf_5 : decode cX3_needsOf 5 = .ok (.getfield 85, 3) := by decide +kernel
theorem dX3_needsOf_8 : decode cX3_needsOf 8 = .ok (.iload_n 1, 1) := by decide +kernel
theorem dX3_needsOf_9 : decode cX3_needsOf 9 = .ok (.iaload, 1) := by decide +kernel
theorem dX3_needsOf_10 : decode cX3_needsOf 10 = .ok (.aload_n 0, 1) := by decide +kernel
theorem dX3_needsOf_11 : decode cX3_needsOf 11 = .ok (.aload_n 0, 1) := by decide +kernel
theorem dX3_needsOf_12 : decode cX3_needsOf 12 = .ok (.getfield 30, 3) := by decide +kernel
theorem dX3_needsOf_15 : decode cX3_needsOf 15 = .ok (.getfield 88, 3) := by decide +kernel
theorem dX3_needsOf_18 : decode cX3_needsOf 18 = .ok (.iload_n 1, 1) := by decide +kernel
theorem dX3_needsOf_19 : decode cX3_needsOf 19 = .ok (.iaload, 1) := by decide +kernel
theorem dX3_needsOf_20 : decode cX3_needsOf 20 = .ok (.invokevirtual 81, 3) := by decide +kernel
theorem dX3_needsOf_23 : decode cX3_needsOf 23 = .ok (.isub, 1) := by decide +kernel
theorem dX3_needsOf_24 : decode cX3_needsOf 24 = .ok (.aload_n 0, 1) := by decide +kernel
theorem dX3_needsOf_25 : decode cX3_needsOf 25 = .ok (.aload_n 0, 1) := by decide +kernel
theorem dX3_needsOf_26 : decode cX3_needsOf 26 = .ok (.getfield 30, 3) := by decide +kernel
theorem dX3_needsOf_29 : decode cX3_needsOf 29 = .ok (.getfield 91, 3) := by decide +kernel
theorem dX3_needsOf_32 : decode cX3_needsOf 32 = .ok (.iload_n 1, 1) := by decide +kernel
theorem dX3_needsOf_33 : decode cX3_needsOf 33 = .ok (.iaload, 1) := by decide +kernel
theorem dX3_needsOf_34 : decode cX3_needsOf 34 = .ok (.invokevirtual 81, 3) := by decide +kernel
theorem dX3_needsOf_37 : decode cX3_needsOf 37 = .ok (.isub, 1) := by decide +kernel
theorem dX3_needsOf_38 : decode cX3_needsOf 38 = .ok (.invokestatic 94, 3) := by decide +kernel
theorem dX3_needsOf_41 : decode cX3_needsOf 41 = .ok (.ireturn, 1) := by decide +kernel
theorem dX3_isLit_0 : decode cX3_isLit 0 = .ok (.aload_n 0, 1) := by decide +kernel
theorem dX3_isLit_1 : decode cX3_isLit 1 = .ok (.iload_n 1, 1) := by decide +kernel
theorem dX3_isLit_2 : decode cX3_isLit 2 = .ok (.invokevirtual 100, 3) := by decide +kernel
theorem dX3_isLit_5 : decode cX3_isLit 5 = .ok (.ifCond .ne 7, 3) := by decide +kernel
theorem dX3_isLit_8 : decode cX3_isLit 8 = .ok (.iconst 1, 1) := by decide +kernel
theorem dX3_isLit_9 : decode cX3_isLit 9 = .ok (.goto 4, 3) := by decide +kernel
theorem dX3_isLit_12 : decode cX3_isLit 12 = .ok (.iconst 0, 1) := by decide +kernel
theorem dX3_isLit_13 : decode cX3_isLit 13 = .ok (.ireturn, 1) := by decide +kernel
theorem dX3_litStreets_0 : decode cX3_litStreets 0 = .ok (.iconst 0, 1) := by decide +kernel
theorem dX3_litStreets_1 : decode cX3_litStreets 1 = .ok (.istore_n 1, 1) := by decide +kernel
theorem dX3_litStreets_2 : decode cX3_litStreets 2 = .ok (.iconst 0, 1) := by decide +kernel
theorem dX3_litStreets_3 : decode cX3_litStreets 3 = .ok (.istore_n 2, 1) := by decide +kernel
theorem dX3_litStreets_4 : decode cX3_litStreets 4 = .ok (.iload_n 2, 1) := by decide +kernel
theorem dX3_litStreets_5 : decode cX3_litStreets 5 = .ok (.aload_n 0, 1) := by decide +kernel
theorem dX3_litStreets_6 : decode cX3_litStreets 6 = .ok (.getfield 30, 3) := by decide +kernel
theorem dX3_litStreets_9 : decode cX3_litStreets 9 = .ok (.getfield 103, 3) := by decide +kernel
theorem dX3_litStreets_12 : decode cX3_litStreets 12 = .ok (.if_icmp .ge 23, 3) := by decide +kernel
theorem dX3_litStreets_15 : decode cX3_litStreets 15 = .ok (.aload_n 0, 1) := by decide +kernel
theorem dX3_litStreets_16 : decode cX3_litStreets 16 = .ok (.iload_n 2, 1) := by decide +kernel
theorem dX3_litStreets_17 : decode cX3_litStreets 17 = .ok (.invokevirtual 106, 3) := by decide +kernel
theorem dX3_litStreets_20 : decode cX3_litStreets 20 = .ok (.ifCond .eq 9, 3) := by decide +kernel
theorem dX3_litStreets_23 : decode cX3_litStreets 23 = .ok (.iload_n 1, 1) := by decide +kernel
theorem dX3_litStreets_24 : decode cX3_litStreets 24 = .ok (.iconst 1, 1) := by decide +kernel
theorem dX3_litStreets_25 : decode cX3_litStreets 25 = .ok (.iload_n 2, 1) := by decide +kernel
theorem dX3_litStreets_26 : decode cX3_litStreets 26 = .ok (.ishl, 1) := by decide +kernel
theorem dX3_litStreets_27 : decode cX3_litStreets 27 = .ok (.ior, 1) := by decide +kernel
theorem dX3_litStreets_28 : decode cX3_litStreets 28 = .ok (.istore_n 1, 1) := by decide +kernel
theorem dX3_litStreets_29 : decode cX3_litStreets 29 = .ok (.iinc 2 1, 3) := by decide +kernel
theorem dX3_litStreets_32 : decode cX3_litStreets 32 = .ok (.goto (-28), 3) := by decide +kernel
theorem dX3_litStreets_35 : decode cX3_litStreets 35 = .ok (.iload_n 1, 1) := by decide +kernel
theorem dX3_litStreets_36 : decode cX3_litStreets 36 = .ok (.ireturn, 1) := by decide +kernel
theorem dX3_needsOfAll_0 : decode cX3_needsOfAll 0 = .ok (.iconst 0, 1) := by decide +kernel
theorem dX3_needsOfAll_1 : decode cX3_needsOfAll 1 = .ok (.istore_n 1, 1) := by decide +kernel
theorem dX3_needsOfAll_2 : decode cX3_needsOfAll 2 = .ok (.iconst 0, 1) := by decide +kernel
theorem dX3_needsOfAll_3 : decode cX3_needsOfAll 3 = .ok (.istore_n 2, 1) := by decide +kernel
theorem dX3_needsOfAll_4 : decode cX3_needsOfAll 4 = .ok (.iload_n 2, 1) := by decide +kernel
theorem dX3_needsOfAll_5 : decode cX3_needsOfAll 5 = .ok (.aload_n 0, 1) := by decide +kernel
theorem dX3_needsOfAll_6 : decode cX3_needsOfAll 6 = .ok (.getfield 30, 3) := by decide +kernel
theorem dX3_needsOfAll_9 : decode cX3_needsOfAll 9 = .ok (.getfield 103, 3) := by decide +kernel
theorem dX3_needsOfAll_12 : decode cX3_needsOfAll 12 = .ok (.if_icmp .ge 17, 3) := by decide +kernel
theorem dX3_needsOfAll_15 : decode cX3_needsOfAll 15 = .ok (.iload_n 1, 1) := by decide +kernel
theorem dX3_needsOfAll_16 : decode cX3_needsOfAll 16 = .ok (.aload_n 0, 1) := by decide +kernel
theorem dX3_needsOfAll_17 : decode cX3_needsOfAll 17 = .ok (.iload_n 2, 1) := by decide +kernel
theorem dX3_needsOfAll_18 : decode cX3_needsOfAll 18 = .ok (.invokevirtual 100, 3) := by decide +kernel
theorem dX3_needsOfAll_21 : decode cX3_needsOfAll 21 = .ok (.iadd, 1) := by decide +kernel
theorem dX3_needsOfAll_22 : decode cX3_needsOfAll 22 = .ok (.istore_n 1, 1) := by decide +kernel
theorem dX3_needsOfAll_23 : decode cX3_needsOfAll 23 = .ok (.iinc 2 1, 3) := by decide +kernel
theorem dX3_needsOfAll_26 : decode cX3_needsOfAll 26 = .ok (.goto (-22), 3) := by decide +kernel
theorem dX3_needsOfAll_29 : decode cX3_needsOfAll 29 = .ok (.iload_n 1, 1) := by decide +kernel
theorem dX3_needsOfAll_30 : decode cX3_needsOfAll 30 = .ok (.ireturn, 1) := by decide +kernel
theorem dX4_init_0 : decode cX4_init 0 = .ok (.aload_n 0, 1) := by decide +kernel
theorem dX4_init_1 : decode cX4_init 1 = .ok (.invokespecial 3, 3) := by decide +kernel
theorem dX4_init_4 : decode cX4_init 4 = .ok (.aload_n 0, 1) := by decide +kernel
theorem dX4_init_5 : decode cX4_init 5 = .ok (.sipush 1520, 3) := by decide +kernel
theorem dX4_init_8 : decode cX4_init 8 = .ok (.newarray .int, 2) := by decide +kernel
theorem dX4_init_10 : decode cX4_init 10 = .ok (.putfield 13, 3) := by decide +kernel
theorem dX4_init_13 : decode cX4_init 13 = .ok (.aload_n 0, 1) := by decide +kernel
theorem dX4_init_14 : decode cX4_init 14 = .ok (.bipush 114, 2) := by decide +kernel
theorem dX4_init_16 : decode cX4_init 16 = .ok (.newarray .int, 2) := by decide +kernel
theorem dX4_init_18 : decode cX4_init 18 = .ok (.putfield 17, 3) := by decide +kernel
theorem dX4_init_21 : decode cX4_init 21 = .ok (.return_, 1) := by decide +kernel
theorem dX4_clear_0 : decode cX4_clear 0 = .ok (.aload_n 0, 1) := by decide +kernel
theorem dX4_clear_1 : decode cX4_clear 1 = .ok (.iconst 0, 1) := by decide +kernel
theorem dX4_clear_2 : decode cX4_clear 2 = .ok (.putfield 20, 3) := by decide +kernel
theorem dX4_clear_5 : decode cX4_clear 5 = .ok (.aload_n 0, 1) := by decide +kernel
theorem dX4_clear_6 : decode cX4_clear 6 = .ok (.iconst 0, 1) := by decide +kernel
theorem dX4_clear_7 : decode cX4_clear 7 = .ok (.putfield 24, 3) := by decide +kernel
theorem dX4_clear_10 : decode cX4_clear 10 = .ok (.return_, 1) := by decide +kernel
theorem dX4_note_0 : decode cX4_note 0 = .ok (.aload_n 1, 1) := by decide +kernel
theorem dX4_note_1 : decode cX4_note 1 = .ok (.aload_n 0, 1) := by decide +kernel
theorem dX4_note_2 : decode cX4_note 2 = .ok (.getfield 13, 3) := by decide +kernel
theorem dX4_note_5 : decode cX4_note 5 = .ok (.aload_n 0, 1) := by decide +kernel
theorem dX4_note_6 : decode cX4_note 6 = .ok (.getfield 27, 3) := by decide +kernel
theorem dX4_note_9 : decode cX4_note 9 = .ok (.invokestatic 30, 3) := by decide +kernel
theorem dX4_note_12 : decode cX4_note 12 = .ok (.aload_n 0, 1) := by decide +kernel
theorem dX4_note_13 : decode cX4_note 13 = .ok (.aload_n 0, 1) := by decide +kernel
theorem dX4_note_14 : decode cX4_note 14 = .ok (.getfield 27, 3) := by decide +kernel
theorem dX4_note_17 : decode cX4_note 17 = .ok (.iconst 1, 1) := by decide +kernel
theorem dX4_note_18 : decode cX4_note 18 = .ok (.iadd, 1) := by decide +kernel
theorem dX4_note_19 : decode cX4_note 19 = .ok (.bipush 40, 2) := by decide +kernel
theorem dX4_note_21 : decode cX4_note 21 = .ok (.irem, 1) := by decide +kernel
theorem dX4_note_22 : decode cX4_note 22 = .ok (.putfield 27, 3) := by decide +kernel
theorem dX4_note_25 : decode cX4_note 25 = .ok (.aload_n 0, 1) := by decide +kernel
theorem dX4_note_26 : decode cX4_note 26 = .ok (.bipush 40, 2) := by decide +kernel
theorem dX4_note_28 : decode cX4_note 28 = .ok (.aload_n 0, 1) := by decide +kernel
theorem dX4_note_29 : decode cX4_note 29 = .ok (.getfield 20, 3) := by decide +kernel
theorem dX4_note_32 : decode cX4_note 32 = .ok (.iconst 1, 1) := by decide +kernel
theorem dX4_note_33 : decode cX4_note 33 = .ok (.iadd, 1) := by decide +kernel
theorem dX4_note_34 : decode cX4_note 34 = .ok (.invokestatic 34, 3) := by decide +kernel
theorem dX4_note_37 : decode cX4_note 37 = .ok (.putfield 20, 3) := by decide +kernel
theorem dX4_note_40 : decode cX4_note 40 = .ok (.return_, 1) := by decide +kernel
theorem dX4_takeBack_0 : decode cX4_takeBack 0 = .ok (.aload_n 0, 1) := by decide +kernel
theorem dX4_takeBack_1 : decode cX4_takeBack 1 = .ok (.getfield 20, 3) := by decide +kernel
theorem dX4_takeBack_4 : decode cX4_takeBack 4 = .ok (.ifCond .ne 5, 3) := by decide +kernel
theorem dX4_takeBack_7 : decode cX4_takeBack 7 = .ok (.iconst 0, 1) := by decide +kernel
theorem dX4_takeBack_8 : decode cX4_takeBack 8 = .ok (.ireturn, 1) := by decide +kernel
theorem dX4_takeBack_9 : decode cX4_takeBack 9 = .ok (.aload_n 0, 1) := by decide +kernel
theorem dX4_takeBack_10 : decode cX4_takeBack 10 = .ok (.dup, 1) := by decide +kernel
theorem dX4_takeBack_11 : decode cX4_takeBack 11 = .ok (.getfield 20, 3) := by decide +kernel
theorem dX4_takeBack_14 : decode cX4_takeBack 14 = .ok (.iconst 1, 1) := by decide +kernel
theorem dX4_takeBack_15 : decode cX4_takeBack 15 = .ok (.isub, 1) := by decide +kernel
theorem dX4_takeBack_16 : decode cX4_takeBack 16 = .ok (.putfield 20, 3) := by decide +kernel
theorem dX4_takeBack_19 : decode cX4_takeBack 19 = .ok (.aload_n 0, 1) := by decide +kernel
theorem dX4_takeBack_20 : decode cX4_takeBack 20 = .ok (.aload_n 0, 1) := by decide +kernel
theorem dX4_takeBack_21 : decode cX4_takeBack 21 = .ok (.getfield 27, 3) := by decide +kernel
theorem dX4_takeBack_24 : decode cX4_takeBack 24 = .ok (.bipush 40, 2) := by decide +kernel
theorem dX4_takeBack_26 : decode cX4_takeBack 26 = .ok (.iadd, 1) := by decide +kernel
theorem dX4_takeBack_27 : decode cX4_takeBack 27 = .ok (.iconst 1, 1) := by decide +kernel
theorem dX4_takeBack_28 : decode cX4_takeBack 28 = .ok (.isub, 1) := by decide +kernel
theorem dX4_takeBack_29 : decode cX4_takeBack 29 = .ok (.bipush 40, 2) := by decide +kernel
theorem dX4_takeBack_31 : decode cX4_takeBack 31 = .ok (.irem, 1) := by decide +kernel
theorem dX4_takeBack_32 : decode cX4_takeBack 32 = .ok (.putfield 27, 3) := by decide +kernel
theorem dX4_takeBack_35 : decode cX4_takeBack 35 = .ok (.aload_n 0, 1) := by decide +kernel
theorem dX4_takeBack_36 : decode cX4_takeBack 36 = .ok (.getfield 13, 3) := by decide +kernel
theorem dX4_takeBack_39 : decode cX4_takeBack 39 = .ok (.aload_n 0, 1) := by decide +kernel
theorem dX4_takeBack_40 : decode cX4_takeBack 40 = .ok (.getfield 27, 3) := by decide +kernel
theorem dX4_takeBack_43 : decode cX4_takeBack 43 = .ok (.aload_n 1, 1) := by decide +kernel
theorem dX4_takeBack_44 : decode cX4_takeBack 44 = .ok (.invokestatic 40, 3) := by decide +kernel
theorem dX4_takeBack_47 : decode cX4_takeBack 47 = .ok (.iconst 1, 1) := by decide +kernel
theorem dX4_takeBack_48 : decode cX4_takeBack 48 = .ok (.ireturn, 1) := by decide +kernel
theorem dX4_keepIn_0 : decode cX4_keepIn 0 = .ok (.iload_n 1, 1) := by decide +kernel
theorem dX4_keepIn_1 : decode cX4_keepIn 1 = .ok (.ifCond .lt 8, 3) := by decide +kernel
theorem dX4_keepIn_4 : decode cX4_keepIn 4 = .ok (.iload_n 1, 1) := by decide +kernel
theorem dX4_keepIn_5 : decode cX4_keepIn 5 = .ok (.iconst 3, 1) := by decide +kernel
theorem dX4_keepIn_6 : decode cX4_keepIn 6 = .ok (.if_icmp .lt 5, 3) := by decide +kernel
theorem dX4_keepIn_9 : decode cX4_keepIn 9 = .ok (.iconst 0, 1) := by decide +kernel
theorem dX4_keepIn_10 : decode cX4_keepIn 10 = .ok (.ireturn, 1) := by decide +kernel
theorem dX4_keepIn_11 : decode cX4_keepIn 11 = .ok (.aload_n 2, 1) := by decide +kernel
theorem dX4_keepIn_12 : decode cX4_keepIn 12 = .ok (.aload_n 0, 1) := by decide +kernel
theorem dX4_keepIn_13 : decode cX4_keepIn 13 = .ok (.getfield 17, 3) := by decide +kernel
theorem dX4_keepIn_16 : decode cX4_keepIn 16 = .ok (.iload_n 1, 1) := by decide +kernel
theorem dX4_keepIn_17 : decode cX4_keepIn 17 = .ok (.invokestatic 30, 3) := by decide +kernel
theorem dX4_keepIn_20 : decode cX4_keepIn 20 = .ok (.aload_n 0, 1) := by decide +kernel
theorem dX4_keepIn_21 : decode cX4_keepIn 21 = .ok (.dup, 1) := by decide +kernel
theorem dX4_keepIn_22 : decode cX4_keepIn 22 = .ok (.getfield 24, 3) := by decide +kernel
theorem dX4_keepIn_25 : decode cX4_keepIn 25 = .ok (.iconst 1, 1) := by decide +kernel
theorem dX4_keepIn_26 : decode cX4_keepIn 26 = .ok (.iload_n 1, 1) := by decide +kernel
theorem dX4_keepIn_27 : decode cX4_keepIn 27 = .ok (.ishl, 1) := by decide +kernel
theorem dX4_keepIn_28 : decode cX4_keepIn 28 = .ok (.ior, 1) := by decide +kernel
theorem dX4_keepIn_29 : decode cX4_keepIn 29 = .ok (.putfield 24, 3) := by decide +kernel
theorem dX4_keepIn_32 : decode cX4_keepIn 32 = .ok (.iconst 1, 1) := by decide +kernel
theorem dX4_keepIn_33 : decode cX4_keepIn 33 = .ok (.ireturn, 1) := by decide +kernel
theorem dX4_takeFrom_0 : decode cX4_takeFrom 0 = .ok (.iload_n 1, 1) := by decide +kernel
theorem dX4_takeFrom_1 : decode cX4_takeFrom 1 = .ok (.ifCond .lt 19, 3) := by decide +kernel
theorem dX4_takeFrom_4 : decode cX4_takeFrom 4 = .ok (.iload_n 1, 1) := by decide +kernel
theorem dX4_takeFrom_5 : decode cX4_takeFrom 5 = .ok (.iconst 3, 1) := by decide +kernel
theorem dX4_takeFrom_6 : decode cX4_takeFrom 6 = .ok (.if_icmp .ge 14, 3) := by decide +kernel
theorem dX4_takeFrom_9 : decode cX4_takeFrom 9 = .ok (.aload_n 0, 1) := by decide +kernel
theorem dX4_takeFrom_10 : decode cX4_takeFrom 10 = .ok (.getfield 24, 3) := by decide +kernel
theorem dX4_takeFrom_13 : decode cX4_takeFrom 13 = .ok (.iload_n 1, 1) := by decide +kernel
theorem dX4_takeFrom_14 : decode cX4_takeFrom 14 = .ok (.ishr, 1) := by decide +kernel
theorem dX4_takeFrom_15 : decode cX4_takeFrom 15 = .ok (.iconst 1, 1) := by decide +kernel
theorem dX4_takeFrom_16 : decode cX4_takeFrom 16 = .ok (.iand, 1) := by decide +kernel
theorem dX4_takeFrom_17 : decode cX4_takeFrom 17 = .ok (.ifCond .ne 5, 3) := by decide +kernel
theorem dX4_takeFrom_20 : decode cX4_takeFrom 20 = .ok (.iconst 0, 1) := by decide +kernel
theorem dX4_takeFrom_21 : decode cX4_takeFrom 21 = .ok (.ireturn, 1) := by decide +kernel
theorem dX4_takeFrom_22 : decode cX4_takeFrom 22 = .ok (.aload_n 0, 1) := by decide +kernel
theorem dX4_takeFrom_23 : decode cX4_takeFrom 23 = .ok (.getfield 17, 3) := by decide +kernel
theorem dX4_takeFrom_26 : decode cX4_takeFrom 26 = .ok (.iload_n 1, 1) := by decide +kernel
theorem dX4_takeFrom_27 : decode cX4_takeFrom 27 = .ok (.aload_n 2, 1) := by decide +kernel
theorem dX4_takeFrom_28 : decode cX4_takeFrom 28 = .ok (.invokestatic 40, 3) := by decide +kernel
theorem dX4_takeFrom_31 : decode cX4_takeFrom 31 = .ok (.aload_n 0, 1) := by decide +kernel
theorem dX4_takeFrom_32 : decode cX4_takeFrom 32 = .ok (.iconst 0, 1) := by decide +kernel
theorem dX4_takeFrom_33 : decode cX4_takeFrom 33 = .ok (.putfield 20, 3) := by decide +kernel
theorem dX4_takeFrom_36 : decode cX4_takeFrom 36 = .ok (.iconst 1, 1) := by decide +kernel
theorem dX4_takeFrom_37 : decode cX4_takeFrom 37 = .ok (.ireturn, 1) := by decide +kernel
theorem dX4_write_0 : decode cX4_write 0 = .ok (.iload_n 2, 1) := by decide +kernel
theorem dX4_write_1 : decode cX4_write 1 = .ok (.bipush 38, 2) := by decide +kernel
theorem dX4_write_3 : decode cX4_write 3 = .ok (.imul, 1) := by decide +kernel
theorem dX4_write_4 : decode cX4_write 4 = .ok (.istore_n 3, 1) := by decide +kernel
theorem dX4_write_5 : decode cX4_write 5 = .ok (.aload_n 1, 1) := by decide +kernel
theorem dX4_write_6 : decode cX4_write 6 = .ok (.iload_n 3, 1) := by decide +kernel
theorem dX4_write_7 : decode cX4_write 7 = .ok (.aload_n 0, 1) := by decide +kernel
theorem dX4_write_8 : decode cX4_write 8 = .ok (.getfield 44, 3) := by decide +kernel
theorem dX4_write_11 : decode cX4_write 11 = .ok (.iastore, 1) := by decide +kernel
theorem dX4_write_12 : decode cX4_write 12 = .ok (.aload_n 1, 1) := by decide +kernel
theorem dX4_write_13 : decode cX4_write 13 = .ok (.iload_n 3, 1) := by decide +kernel
theorem dX4_write_14 : decode cX4_write 14 = .ok (.iconst 1, 1) := by decide +kernel
theorem dX4_write_15 : decode cX4_write 15 = .ok (.iadd, 1) := by decide +kernel
theorem dX4_write_16 : decode cX4_write 16 = .ok (.aload_n 0, 1) := by decide +kernel
theorem dX4_write_17 : decode cX4_write 17 = .ok (.getfield 47, 3) := by decide +kernel
theorem dX4_write_20 : decode cX4_write 20 = .ok (.iastore, 1) := by decide +kernel
theorem dX4_write_21 : decode cX4_write 21 = .ok (.aload_n 1, 1) := by decide +kernel
theorem dX4_write_22 : decode cX4_write 22 = .ok (.iload_n 3, 1) := by decide +kernel
theorem dX4_write_23 : decode cX4_write 23 = .ok (.iconst 2, 1) := by decide +kernel
theorem dX4_write_24 : decode cX4_write 24 = .ok (.iadd, 1) := by decide +kernel
theorem dX4_write_25 : decode cX4_write 25 = .ok (.aload_n 0, 1) := by decide +kernel
theorem dX4_write_26 : decode cX4_write 26 = .ok (.getfield 50, 3) := by decide +kernel
theorem dX4_write_29 : decode cX4_write 29 = .ok (.iastore, 1) := by decide +kernel
theorem dX4_write_30 : decode cX4_write 30 = .ok (.aload_n 1, 1) := by decide +kernel
theorem dX4_write_31 : decode cX4_write 31 = .ok (.iload_n 3, 1) := by decide +kernel
theorem dX4_write_32 : decode cX4_write 32 = .ok (.iconst 3, 1) := by decide +kernel
theorem dX4_write_33 : decode cX4_write 33 = .ok (.iadd, 1) := by decide +kernel
theorem dX4_write_34 : decode cX4_write 34 = .ok (.aload_n 0, 1) := by decide +kernel
theorem dX4_write_35 : decode cX4_write 35 = .ok (.getfield 53, 3) := by decide +kernel
theorem dX4_write_38 : decode cX4_write 38 = .ok (.iastore, 1) := by decide +kernel
theorem dX4_write_39 : decode cX4_write 39 = .ok (.iinc 3 4, 3) := by decide +kernel
theorem dX4_write_42 : decode cX4_write 42 = .ok (.aload_n 0, 1) := by decide +kernel
theorem dX4_write_43 : decode cX4_write 43 = .ok (.getfield 56, 3) := by decide +kernel
theorem dX4_write_46 : decode cX4_write 46 = .ok (.iconst 0, 1) := by decide +kernel
theorem dX4_write_47 : decode cX4_write 47 = .ok (.aload_n 1, 1) := by decide +kernel
theorem dX4_write_48 : decode cX4_write 48 = .ok (.iload_n 3, 1) := by decide +kernel
theorem dX4_write_49 : decode cX4_write 49 = .ok (.bipush 6, 2) := by decide +kernel
theorem dX4_write_51 : decode cX4_write 51 = .ok (.invokestatic 59, 3) := by decide +kernel
theorem dX4_write_54 : decode cX4_write 54 = .ok (.aload_n 0, 1) := by decide +kernel
theorem dX4_write_55 : decode cX4_write 55 = .ok (.getfield 65, 3) := by decide +kernel
theorem dX4_write_58 : decode cX4_write 58 = .ok (.iconst 0, 1) := by decide +kernel
theorem dX4_write_59 : decode cX4_write 59 = .ok (.aload_n 1, 1) := by decide +kernel
theorem dX4_write_60 : decode cX4_write 60 = .ok (.iload_n 3, 1) := by decide +kernel
theorem dX4_write_61 : decode cX4_write 61 = .ok (.bipush 6, 2) := by decide +kernel
theorem dX4_write_63 : decode cX4_write 63 = .ok (.iadd, 1) := by decide +kernel
theorem dX4_write_64 : decode cX4_write 64 = .ok (.bipush 6, 2) := by decide +kernel
theorem dX4_write_66 : decode cX4_write 66 = .ok (.invokestatic 59, 3) := by decide +kernel
theorem dX4_write_69 : decode cX4_write 69 = .ok (.aload_n 0, 1) := by decide +kernel
theorem dX4_write_70 : decode cX4_write 70 = .ok (.getfield 68, 3) := by decide +kernel
theorem dX4_write_73 : decode cX4_write 73 = .ok (.iconst 0, 1) := by decide +kernel
theorem dX4_write_74 : decode cX4_write 74 = .ok (.aload_n 1, 1) := by decide +kernel
theorem dX4_write_75 : decode cX4_write 75 = .ok (.iload_n 3, 1) := by decide +kernel
theorem dX4_write_76 : decode cX4_write 76 = .ok (.bipush 12, 2) := by decide +kernel
theorem dX4_write_78 : decode cX4_write 78 = .ok (.iadd, 1) := by decide +kernel
theorem dX4_write_79 : decode cX4_write 79 = .ok (.bipush 6, 2) := by decide +kernel
theorem dX4_write_81 : decode cX4_write 81 = .ok (.invokestatic 59, 3) := by decide +kernel
theorem dX4_write_84 : decode cX4_write 84 = .ok (.aload_n 0, 1) := by decide +kernel
theorem dX4_write_85 : decode cX4_write 85 = .ok (.getfield 71, 3) := by decide +kernel
theorem dX4_write_88 : decode cX4_write 88 = .ok (.iconst 0, 1) := by decide +kernel
theorem dX4_write_89 : decode cX4_write 89 = .ok (.aload_n 1, 1) := by decide +kernel
theorem dX4_write_90 : decode cX4_write 90 = .ok (.iload_n 3, 1) := by decide +kernel
theorem dX4_write_91 : decode cX4_write 91 = .ok (.bipush 18, 2) := by decide +kernel
theorem dX4_write_93 : decode cX4_write 93 = .ok (.iadd, 1) := by decide +kernel
theorem dX4_write_94 : decode cX4_write 94 = .ok (.bipush 6, 2) := by decide +kernel
theorem dX4_write_96 : decode cX4_write 96 = .ok (.invokestatic 59, 3) := by decide +kernel
theorem dX4_write_99 : decode cX4_write 99 = .ok (.aload_n 0, 1) := by decide +kernel
theorem dX4_write_100 : decode cX4_write 100 = .ok (.getfield 74, 3) := by decide +kernel
theorem dX4_write_103 : decode cX4_write 103 = .ok (.iconst 0, 1) := by decide +kernel
theorem dX4_write_104 : decode cX4_write 104 = .ok (.aload_n 1, 1) := by decide +kernel
theorem dX4_write_105 : decode cX4_write 105 = .ok (.iload_n 3, 1) := by decide +kernel
theorem dX4_write_106 : decode cX4_write 106 = .ok (.bipush 24, 2) := by decide +kernel
theorem dX4_write_108 : decode cX4_write 108 = .ok (.iadd, 1) := by decide +kernel
theorem dX4_write_109 : decode cX4_write 109 = .ok (.iconst 5, 1) := by decide +kernel
theorem dX4_write_110 : decode cX4_write 110 = .ok (.invokestatic 59, 3) := by decide +kernel
theorem dX4_write_113 : decode cX4_write 113 = .ok (.aload_n 0, 1) := by decide +kernel
theorem dX4_write_114 : decode cX4_write 114 = .ok (.getfield 77, 3) := by decide +kernel
theorem dX4_write_117 : decode cX4_write 117 = .ok (.iconst 0, 1) := by decide +kernel
theorem dX4_write_118 : decode cX4_write 118 = .ok (.aload_n 1, 1) := by decide +kernel
theorem dX4_write_119 : decode cX4_write 119 = .ok (.iload_n 3, 1) := by decide +kernel
theorem dX4_write_120 : decode cX4_write 120 = .ok (.bipush 24, 2) := by decide +kernel
theorem dX4_write_122 : decode cX4_write 122 = .ok (.iadd, 1) := by decide +kernel
theorem dX4_write_123 : decode cX4_write 123 = .ok (.iconst 5, 1) := by decide +kernel
theorem dX4_write_124 : decode cX4_write 124 = .ok (.iadd, 1) := by decide +kernel
theorem dX4_write_125 : decode cX4_write 125 = .ok (.iconst 5, 1) := by decide +kernel
theorem dX4_write_126 : decode cX4_write 126 = .ok (.invokestatic 59, 3) := by decide +kernel
theorem dX4_write_129 : decode cX4_write 129 = .ok (.return_, 1) := by decide +kernel
theorem dX4_writeBack_0 : decode cX4_writeBack 0 = .ok (.iload_n 1, 1) := by decide +kernel
theorem dX4_writeBack_1 : decode cX4_writeBack 1 = .ok (.bipush 38, 2) := by decide +kernel
theorem dX4_writeBack_3 : decode cX4_writeBack 3 = .ok (.imul, 1) := by decide +kernel
theorem dX4_writeBack_4 : decode cX4_writeBack 4 = .ok (.istore_n 3, 1) := by decide +kernel
theorem dX4_writeBack_5 : decode cX4_writeBack 5 = .ok (.aload_n 2, 1) := by decide +kernel
theorem dX4_writeBack_6 : decode cX4_writeBack 6 = .ok (.aload_n 0, 1) := by decide +kernel
theorem dX4_writeBack_7 : decode cX4_writeBack 7 = .ok (.iload_n 3, 1) := by decide +kernel
theorem dX4_writeBack_8 : decode cX4_writeBack 8 = .ok (.iaload, 1) := by decide +kernel
theorem dX4_writeBack_9 : decode cX4_writeBack 9 = .ok (.putfield 44, 3) := by decide +kernel
theorem dX4_writeBack_12 : decode cX4_writeBack 12 = .ok (.aload_n 2, 1) := by decide +kernel
theorem dX4_writeBack_13 : decode cX4_writeBack 13 = .ok (.aload_n 0, 1) := by decide +kernel
theorem dX4_writeBack_14 : decode cX4_writeBack 14 = .ok (.iload_n 3, 1) := by decide +kernel
theorem dX4_writeBack_15 : decode cX4_writeBack 15 = .ok (.iconst 1, 1) := by decide +kernel
theorem dX4_writeBack_16 : decode cX4_writeBack 16 = .ok (.iadd, 1) := by decide +kernel
theorem dX4_writeBack_17 : decode cX4_writeBack 17 = .ok (.iaload, 1) := by decide +kernel
theorem dX4_writeBack_18 : decode cX4_writeBack 18 = .ok (.putfield 47, 3) := by decide +kernel
theorem dX4_writeBack_21 : decode cX4_writeBack 21 = .ok (.aload_n 2, 1) := by decide +kernel
theorem dX4_writeBack_22 : decode cX4_writeBack 22 = .ok (.aload_n 0, 1) := by decide +kernel
theorem dX4_writeBack_23 : decode cX4_writeBack 23 = .ok (.iload_n 3, 1) := by decide +kernel
theorem dX4_writeBack_24 : decode cX4_writeBack 24 = .ok (.iconst 2, 1) := by decide +kernel
theorem dX4_writeBack_25 : decode cX4_writeBack 25 = .ok (.iadd, 1) := by decide +kernel
theorem dX4_writeBack_26 : decode cX4_writeBack 26 = .ok (.iaload, 1) := by decide +kernel
theorem dX4_writeBack_27 : decode cX4_writeBack 27 = .ok (.putfield 50, 3) := by decide +kernel
theorem dX4_writeBack_30 : decode cX4_writeBack 30 = .ok (.aload_n 2, 1) := by decide +kernel
theorem dX4_writeBack_31 : decode cX4_writeBack 31 = .ok (.aload_n 0, 1) := by decide +kernel
theorem dX4_writeBack_32 : decode cX4_writeBack 32 = .ok (.iload_n 3, 1) := by decide +kernel
theorem dX4_writeBack_33 : decode cX4_writeBack 33 = .ok (.iconst 3, 1) := by decide +kernel
theorem dX4_writeBack_34 : decode cX4_writeBack 34 = .ok (.iadd, 1) := by decide +kernel
theorem dX4_writeBack_35 : decode cX4_writeBack 35 = .ok (.iaload, 1) := by decide +kernel
theorem dX4_writeBack_36 : decode cX4_writeBack 36 = .ok (.putfield 53, 3) := by decide +kernel
theorem dX4_writeBack_39 : decode cX4_writeBack 39 = .ok (.iinc 3 4, 3) := by decide +kernel
theorem dX4_writeBack_42 : decode cX4_writeBack 42 = .ok (.aload_n 0, 1) := by decide +kernel
theorem dX4_writeBack_43 : decode cX4_writeBack 43 = .ok (.iload_n 3, 1) := by decide +kernel
theorem dX4_writeBack_44 : decode cX4_writeBack 44 = .ok (.aload_n 2, 1) := by decide +kernel
theorem dX4_writeBack_45 : decode cX4_writeBack 45 = .ok (.getfield 56, 3) := by decide +kernel
theorem dX4_writeBack_48 : decode cX4_writeBack 48 = .ok (.iconst 0, 1) := by decide +kernel
theorem dX4_writeBack_49 : decode cX4_writeBack 49 = .ok (.bipush 6, 2) := by decide +kernel
theorem dX4_writeBack_51 : decode cX4_writeBack 51 = .ok (.invokestatic 59, 3) := by decide +kernel
theorem dX4_writeBack_54 : decode cX4_writeBack 54 = .ok (.aload_n 0, 1) := by decide +kernel
theorem dX4_writeBack_55 : decode cX4_writeBack 55 = .ok (.iload_n 3, 1) := by decide +kernel
theorem dX4_writeBack_56 : decode cX4_writeBack 56 = .ok (.bipush 6, 2) := by decide +kernel
theorem dX4_writeBack_58 : decode cX4_writeBack 58 = .ok (.iadd, 1) := by decide +kernel
theorem dX4_writeBack_59 : decode cX4_writeBack 59 = .ok (.aload_n 2, 1) := by decide +kernel
theorem dX4_writeBack_60 : decode cX4_writeBack 60 = .ok (.getfield 65, 3) := by decide +kernel
theorem dX4_writeBack_63 : decode cX4_writeBack 63 = .ok (.iconst 0, 1) := by decide +kernel
theorem dX4_writeBack_64 : decode cX4_writeBack 64 = .ok (.bipush 6, 2) := by decide +kernel
theorem dX4_writeBack_66 : decode cX4_writeBack 66 = .ok (.invokestatic 59, 3) := by decide +kernel
theorem dX4_writeBack_69 : decode cX4_writeBack 69 = .ok (.aload_n 0, 1) := by decide +kernel
theorem dX4_writeBack_70 : decode cX4_writeBack 70 = .ok (.iload_n 3, 1) := by decide +kernel
theorem dX4_writeBack_71 : decode cX4_writeBack 71 = .ok (.bipush 12, 2) := by decide +kernel
theorem dX4_writeBack_73 : decode cX4_writeBack 73 = .ok (.iadd, 1) := by decide +kernel
theorem dX4_writeBack_74 : decode cX4_writeBack 74 = .ok (.aload_n 2, 1) := by decide +kernel
theorem dX4_writeBack_75 : decode cX4_writeBack 75 = .ok (.getfield 68, 3) := by decide +kernel
theorem dX4_writeBack_78 : decode cX4_writeBack 78 = .ok (.iconst 0, 1) := by decide +kernel
theorem dX4_writeBack_79 : decode cX4_writeBack 79 = .ok (.bipush 6, 2) := by decide +kernel
theorem dX4_writeBack_81 : decode cX4_writeBack 81 = .ok (.invokestatic 59, 3) := by decide +kernel
theorem dX4_writeBack_84 : decode cX4_writeBack 84 = .ok (.aload_n 0, 1) := by decide +kernel
theorem dX4_writeBack_85 : decode cX4_writeBack 85 = .ok (.iload_n 3, 1) := by decide +kernel
theorem dX4_writeBack_86 : decode cX4_writeBack 86 = .ok (.bipush 18, 2) := by decide +kernel
theorem dX4_writeBack_88 : decode cX4_writeBack 88 = .ok (.iadd, 1) := by decide +kernel
theorem dX4_writeBack_89 : decode cX4_writeBack 89 = .ok (.aload_n 2, 1) := by decide +kernel
theorem dX4_writeBack_90 : decode cX4_writeBack 90 = .ok (.getfield 71, 3) := by decide +kernel
theorem dX4_writeBack_93 : decode cX4_writeBack 93 = .ok (.iconst 0, 1) := by decide +kernel
theorem dX4_writeBack_94 : decode cX4_writeBack 94 = .ok (.bipush 6, 2) := by decide +kernel
theorem dX4_writeBack_96 : decode cX4_writeBack 96 = .ok (.invokestatic 59, 3) := by decide +kernel
theorem dX4_writeBack_99 : decode cX4_writeBack 99 = .ok (.aload_n 0, 1) := by decide +kernel
theorem dX4_writeBack_100 : decode cX4_writeBack 100 = .ok (.iload_n 3, 1) := by decide +kernel
theorem dX4_writeBack_101 : decode cX4_writeBack 101 = .ok (.bipush 24, 2) := by decide +kernel
theorem dX4_writeBack_103 : decode cX4_writeBack 103 = .ok (.iadd, 1) := by decide +kernel
theorem dX4_writeBack_104 : decode cX4_writeBack 104 = .ok (.aload_n 2, 1) := by decide +kernel
theorem dX4_writeBack_105 : decode cX4_writeBack 105 = .ok (.getfield 74, 3) := by decide +kernel
theorem dX4_writeBack_108 : decode cX4_writeBack 108 = .ok (.iconst 0, 1) := by decide +kernel
theorem dX4_writeBack_109 : decode cX4_writeBack 109 = .ok (.iconst 5, 1) := by decide +kernel
theorem dX4_writeBack_110 : decode cX4_writeBack 110 = .ok (.invokestatic 59, 3) := by decide +kernel
theorem dX4_writeBack_113 : decode cX4_writeBack 113 = .ok (.aload_n 0, 1) := by decide +kernel
theorem dX4_writeBack_114 : decode cX4_writeBack 114 = .ok (.iload_n 3, 1) := by decide +kernel
theorem dX4_writeBack_115 : decode cX4_writeBack 115 = .ok (.bipush 24, 2) := by decide +kernel
theorem dX4_writeBack_117 : decode cX4_writeBack 117 = .ok (.iadd, 1) := by decide +kernel
theorem dX4_writeBack_118 : decode cX4_writeBack 118 = .ok (.iconst 5, 1) := by decide +kernel
theorem dX4_writeBack_119 : decode cX4_writeBack 119 = .ok (.iadd, 1) := by decide +kernel
theorem dX4_writeBack_120 : decode cX4_writeBack 120 = .ok (.aload_n 2, 1) := by decide +kernel
theorem dX4_writeBack_121 : decode cX4_writeBack 121 = .ok (.getfield 77, 3) := by decide +kernel
theorem dX4_writeBack_124 : decode cX4_writeBack 124 = .ok (.iconst 0, 1) := by decide +kernel
theorem dX4_writeBack_125 : decode cX4_writeBack 125 = .ok (.iconst 5, 1) := by decide +kernel
theorem dX4_writeBack_126 : decode cX4_writeBack 126 = .ok (.invokestatic 59, 3) := by decide +kernel
theorem dX4_writeBack_129 : decode cX4_writeBack 129 = .ok (.return_, 1) := by decide +kernel
theorem dX5_init_0 : decode cX5_init 0 = .ok (.aload_n 0, 1) := by decide +kernel
theorem dX5_init_1 : decode cX5_init 1 = .ok (.invokespecial 3, 3) := by decide +kernel
theorem dX5_init_4 : decode cX5_init 4 = .ok (.aload_n 0, 1) := by decide +kernel
theorem dX5_init_5 : decode cX5_init 5 = .ok (.bipush 6, 2) := by decide +kernel
theorem dX5_init_7 : decode cX5_init 7 = .ok (.newarray .int, 2) := by decide +kernel
theorem dX5_init_9 : decode cX5_init 9 = .ok (.putfield 9, 3) := by decide +kernel
theorem dX5_init_12 : decode cX5_init 12 = .ok (.aload_n 0, 1) := by decide +kernel
theorem dX5_init_13 : decode cX5_init 13 = .ok (.iconst 1, 1) := by decide +kernel
theorem dX5_init_14 : decode cX5_init 14 = .ok (.putfield 15, 3) := by decide +kernel
theorem dX5_init_17 : decode cX5_init 17 = .ok (.aload_n 0, 1) := by decide +kernel
theorem dX5_init_18 : decode cX5_init 18 = .ok (.bipush 7, 2) := by decide +kernel
theorem dX5_init_20 : decode cX5_init 20 = .ok (.newarray .int, 2) := by decide +kernel
theorem dX5_init_22 : decode cX5_init 22 = .ok (.putfield 19, 3) := by decide +kernel
theorem dX5_init_25 : decode cX5_init 25 = .ok (.aload_n 0, 1) := by decide +kernel
theorem dX5_init_26 : decode cX5_init 26 = .ok (.bipush 7, 2) := by decide +kernel
theorem dX5_init_28 : decode cX5_init 28 = .ok (.newarray .int, 2) := by decide +kernel
theorem dX5_init_30 : decode cX5_init 30 = .ok (.putfield 22, 3) := by decide +kernel
theorem dX5_init_33 : decode cX5_init 33 = .ok (.aload_n 0, 1) := by decide +kernel
theorem dX5_init_34 : decode cX5_init 34 = .ok (.bipush 6, 2) := by decide +kernel
theorem dX5_init_36 : decode cX5_init 36 = .ok (.newarray .int, 2) := by decide +kernel
theorem dX5_init_38 : decode cX5_init 38 = .ok (.putfield 25, 3) := by decide +kernel
theorem dX5_init_41 : decode cX5_init 41 = .ok (.return_, 1) := by decide +kernel
theorem dX5_search_0 : decode cX5_search 0 = .ok (.aload_n 0, 1) := by decide +kernel
theorem dX5_search_1 : decode cX5_search 1 = .ok (.getfield 15, 3) := by decide +kernel
theorem dX5_search_4 : decode cX5_search 4 = .ok (.ifCond .ne 4, 3) := by decide +kernel
theorem dX5_search_7 : decode cX5_search 7 = .ok (.return_, 1) := by decide +kernel
theorem dX5_search_8 : decode cX5_search 8 = .ok (.aload_n 0, 1) := by decide +kernel
theorem dX5_search_9 : decode cX5_search 9 = .ok (.iconst 0, 1) := by decide +kernel
theorem dX5_search_10 : decode cX5_search 10 = .ok (.putfield 15, 3) := by decide +kernel
theorem dX5_search_13 : decode cX5_search 13 = .ok (.aload_n 0, 1) := by decide +kernel
theorem dX5_search_14 : decode cX5_search 14 = .ok (.iconst 0, 1) := by decide +kernel
theorem dX5_search_15 : decode cX5_search 15 = .ok (.putfield 28, 3) := by decide +kernel
theorem dX5_search_18 : decode cX5_search 18 = .ok (.aload_n 0, 1) := by decide +kernel
theorem dX5_search_19 : decode cX5_search 19 = .ok (.iconst (-1), 1) := by decide +kernel
theorem dX5_search_20 : decode cX5_search 20 = .ok (.putfield 32, 3) := by decide +kernel
theorem dX5_search_23 : decode cX5_search 23 = .ok (.iconst 0, 1) := by decide +kernel
theorem dX5_search_24 : decode cX5_search 24 = .ok (.istore_n 2, 1) := by decide +kernel
theorem dX5_search_25 : decode cX5_search 25 = .ok (.iconst 0, 1) := by decide +kernel
theorem dX5_search_26 : decode cX5_search 26 = .ok (.istore_n 3, 1) := by decide +kernel
theorem dX5_search_27 : decode cX5_search 27 = .ok (.iload_n 3, 1) := by decide +kernel
theorem dX5_search_28 : decode cX5_search 28 = .ok (.aload_n 1, 1) := by decide +kernel
theorem dX5_search_29 : decode cX5_search 29 = .ok (.getfield 35, 3) := by decide +kernel
theorem dX5_search_32 : decode cX5_search 32 = .ok (.getfield 41, 3) := by decide +kernel
theorem dX5_search_35 : decode cX5_search 35 = .ok (.if_icmp .ge 39, 3) := by decide +kernel
theorem dX5_search_38 : decode cX5_search 38 = .ok (.iload_n 2, 1) := by decide +kernel
theorem dX5_search_39 : decode cX5_search 39 = .ok (.aload_n 1, 1) := by decide +kernel
theorem dX5_search_40 : decode cX5_search 40 = .ok (.getfield 46, 3) := by decide +kernel
theorem dX5_search_43 : decode cX5_search 43 = .ok (.iload_n 3, 1) := by decide +kernel
theorem dX5_search_44 : decode cX5_search 44 = .ok (.iaload, 1) := by decide +kernel
theorem dX5_search_45 : decode cX5_search 45 = .ok (.iadd, 1) := by decide +kernel
theorem dX5_search_46 : decode cX5_search 46 = .ok (.istore_n 2, 1) := by decide +kernel
theorem dX5_search_47 : decode cX5_search 47 = .ok (.aload_n 0, 1) := by decide +kernel
theorem dX5_search_48 : decode cX5_search 48 = .ok (.aload_n 1, 1) := by decide +kernel
theorem dX5_search_49 : decode cX5_search 49 = .ok (.getfield 46, 3) := by decide +kernel
theorem dX5_search_52 : decode cX5_search 52 = .ok (.iload_n 3, 1) := by decide +kernel
theorem dX5_search_53 : decode cX5_search 53 = .ok (.iaload, 1) := by decide +kernel
theorem dX5_search_54 : decode cX5_search 54 = .ok (.ifCond .le 7, 3) := by decide +kernel
theorem dX5_search_57 : decode cX5_search 57 = .ok (.iload_n 3, 1) := by decide +kernel
theorem dX5_search_58 : decode cX5_search 58 = .ok (.goto 7, 3) := by decide +kernel
theorem dX5_search_61 : decode cX5_search 61 = .ok (.aload_n 0, 1) := by decide +kernel
theorem dX5_search_62 : decode cX5_search 62 = .ok (.getfield 32, 3) := by decide +kernel
theorem dX5_search_65 : decode cX5_search 65 = .ok (.putfield 32, 3) := by decide +kernel
theorem dX5_search_68 : decode cX5_search 68 = .ok (.iinc 3 1, 3) := by decide +kernel
theorem dX5_search_71 : decode cX5_search 71 = .ok (.goto (-44), 3) := by decide +kernel
theorem dX5_search_74 : decode cX5_search 74 = .ok (.aload_n 0, 1) := by decide +kernel
theorem dX5_search_75 : decode cX5_search 75 = .ok (.getfield 19, 3) := by decide +kernel
theorem dX5_search_78 : decode cX5_search 78 = .ok (.iconst 0, 1) := by decide +kernel
theorem dX5_search_79 : decode cX5_search 79 = .ok (.invokestatic 49, 3) := by decide +kernel
theorem dX5_search_82 : decode cX5_search 82 = .ok (.aload_n 0, 1) := by decide +kernel
theorem dX5_search_83 : decode cX5_search 83 = .ok (.getfield 25, 3) := by decide +kernel
theorem dX5_search_86 : decode cX5_search 86 = .ok (.iconst 0, 1) := by decide +kernel
theorem dX5_search_87 : decode cX5_search 87 = .ok (.invokestatic 49, 3) := by decide +kernel
theorem dX5_search_90 : decode cX5_search 90 = .ok (.aload_n 0, 1) := by decide +kernel
theorem dX5_search_91 : decode cX5_search 91 = .ok (.getfield 9, 3) := by decide +kernel
theorem dX5_search_94 : decode cX5_search 94 = .ok (.iconst 0, 1) := by decide +kernel
theorem dX5_search_95 : decode cX5_search 95 = .ok (.invokestatic 49, 3) := by decide +kernel
theorem dX5_search_98 : decode cX5_search 98 = .ok (.aload_n 0, 1) := by decide +kernel
theorem dX5_search_99 : decode cX5_search 99 = .ok (.getfield 32, 3) := by decide +kernel
theorem dX5_search_102 : decode cX5_search 102 = .ok (.iconst (-1), 1) := by decide +kernel
theorem dX5_search_103 : decode cX5_search 103 = .ok (.if_icmp .eq 10, 3) := by decide +kernel
theorem dX5_search_106 : decode cX5_search 106 = .ok (.aload_n 0, 1) := by decide +kernel
theorem dX5_search_107 : decode cX5_search 107 = .ok (.aload_n 1, 1) := by decide +kernel
theorem dX5_search_108 : decode cX5_search 108 = .ok (.iconst 0, 1) := by decide +kernel
theorem dX5_search_109 : decode cX5_search 109 = .ok (.iload_n 2, 1) := by decide +kernel
theorem dX5_search_110 : decode cX5_search 110 = .ok (.invokevirtual 55, 3) := by decide +kernel
theorem dX5_search_113 : decode cX5_search 113 = .ok (.return_, 1) := by decide +kernel
theorem dX5_fewestFor_0 : decode cX5_fewestFor 0 = .ok (.aload_n 1, 1) := by decide +kernel
theorem dX5_fewestFor_1 : decode cX5_fewestFor 1 = .ok (.aload_n 1, 1) := by decide +kernel
theorem dX5_fewestFor_2 : decode cX5_fewestFor 2 = .ok (.getfield 35, 3) := by decide +kernel
theorem dX5_fewestFor_5 : decode cX5_fewestFor 5 = .ok (.getfield 59, 3) := by decide +kernel
theorem dX5_fewestFor_8 : decode cX5_fewestFor 8 = .ok (.iload_n 2, 1) := by decide +kernel
theorem dX5_fewestFor_9 : decode cX5_fewestFor 9 = .ok (.iaload, 1) := by decide +kernel
theorem dX5_fewestFor_10 : decode cX5_fewestFor 10 = .ok (.invokevirtual 62, 3) := by decide +kernel
theorem dX5_fewestFor_13 : decode cX5_fewestFor 13 = .ok (.aload_n 1, 1) := by decide +kernel
theorem dX5_fewestFor_14 : decode cX5_fewestFor 14 = .ok (.aload_n 1, 1) := by decide +kernel
theorem dX5_fewestFor_15 : decode cX5_fewestFor 15 = .ok (.getfield 35, 3) := by decide +kernel
theorem dX5_fewestFor_18 : decode cX5_fewestFor 18 = .ok (.getfield 66, 3) := by decide +kernel
theorem dX5_fewestFor_21 : decode cX5_fewestFor 21 = .ok (.iload_n 2, 1) := by decide +kernel
theorem dX5_fewestFor_22 : decode cX5_fewestFor 22 = .ok (.iaload, 1) := by decide +kernel
theorem dX5_fewestFor_23 : decode cX5_fewestFor 23 = .ok (.invokevirtual 62, 3) := by decide +kernel
theorem dX5_fewestFor_26 : decode cX5_fewestFor 26 = .ok (.ior, 1) := by decide +kernel
theorem dX5_fewestFor_27 : decode cX5_fewestFor 27 = .ok (.istore_n 3, 1) := by decide +kernel
theorem dX5_fewestFor_28 : decode cX5_fewestFor 28 = .ok (.aload_n 1, 1) := by decide +kernel
theorem dX5_fewestFor_29 : decode cX5_fewestFor 29 = .ok (.iload_n 2, 1) := by decide +kernel
theorem dX5_fewestFor_30 : decode cX5_fewestFor 30 = .ok (.invokevirtual 69, 3) := by decide +kernel
theorem dX5_fewestFor_33 : decode cX5_fewestFor 33 = .ok (.istore 4, 2) := by decide +kernel
theorem dX5_fewestFor_35 : decode cX5_fewestFor 35 = .ok (.iconst (-1), 1) := by decide +kernel
theorem dX5_fewestFor_36 : decode cX5_fewestFor 36 = .ok (.istore 5, 2) := by decide +kernel
theorem dX5_fewestFor_38 : decode cX5_fewestFor 38 = .ok (.iconst 0, 1) := by decide +kernel
theorem dX5_fewestFor_39 : decode cX5_fewestFor 39 = .ok (.istore 6, 2) := by decide +kernel
theorem dX5_fewestFor_41 : decode cX5_fewestFor 41 = .ok (.iload 6, 2) := by decide +kernel
theorem dX5_fewestFor_43 : decode cX5_fewestFor 43 = .ok (.iconst 1, 1) := by decide +kernel
theorem dX5_fewestFor_44 : decode cX5_fewestFor 44 = .ok (.aload_n 1, 1) := by decide +kernel
theorem dX5_fewestFor_45 : decode cX5_fewestFor 45 = .ok (.getfield 35, 3) := by decide +kernel
theorem dX5_fewestFor_48 : decode cX5_fewestFor 48 = .ok (.getfield 41, 3) := by decide +kernel
theorem dX5_fewestFor_51 : decode cX5_fewestFor 51 = .ok (.ishl, 1) := by decide +kernel
theorem dX5_fewestFor_52 : decode cX5_fewestFor 52 = .ok (.if_icmp .ge 67, 3) := by decide +kernel
theorem dX5_fewestFor_55 : decode cX5_fewestFor 55 = .ok (.iload 5, 2) := by decide +kernel
theorem dX5_fewestFor_57 : decode cX5_fewestFor 57 = .ok (.iconst (-1), 1) := by decide +kernel
theorem dX5_fewestFor_58 : decode cX5_fewestFor 58 = .ok (.if_icmp .eq 16, 3) := by decide +kernel
theorem dX5_fewestFor_61 : decode cX5_fewestFor 61 = .ok (.iload 6, 2) := by decide +kernel
theorem dX5_fewestFor_63 : decode cX5_fewestFor 63 = .ok (.invokestatic 72, 3) := by decide +kernel
theorem dX5_fewestFor_66 : decode cX5_fewestFor 66 = .ok (.iload 5, 2) := by decide +kernel
theorem dX5_fewestFor_68 : decode cX5_fewestFor 68 = .ok (.invokestatic 72, 3) := by decide +kernel
theorem dX5_fewestFor_71 : decode cX5_fewestFor 71 = .ok (.if_icmp .ge 7, 3) := by decide +kernel
theorem dX5_fewestFor_74 : decode cX5_fewestFor 74 = .ok (.iconst 1, 1) := by decide +kernel
theorem dX5_fewestFor_75 : decode cX5_fewestFor 75 = .ok (.goto 4, 3) := by decide +kernel
theorem dX5_fewestFor_78 : decode cX5_fewestFor 78 = .ok (.iconst 0, 1) := by decide +kernel
theorem dX5_fewestFor_79 : decode cX5_fewestFor 79 = .ok (.istore 7, 2) := by decide +kernel
theorem dX5_fewestFor_81 : decode cX5_fewestFor 81 = .ok (.iload 7, 2) := by decide +kernel
theorem dX5_fewestFor_83 : decode cX5_fewestFor 83 = .ok (.ifCond .eq 30, 3) := by decide +kernel
theorem dX5_fewestFor_86 : decode cX5_fewestFor 86 = .ok (.iload 6, 2) := by decide +kernel
theorem dX5_fewestFor_88 : decode cX5_fewestFor 88 = .ok (.iload_n 3, 1) := by decide +kernel
theorem dX5_fewestFor_89 : decode cX5_fewestFor 89 = .ok (.aload_n 1, 1) := by decide +kernel
theorem dX5_fewestFor_90 : decode cX5_fewestFor 90 = .ok (.getfield 77, 3) := by decide +kernel
theorem dX5_fewestFor_93 : decode cX5_fewestFor 93 = .ok (.ior, 1) := by decide +kernel
theorem dX5_fewestFor_94 : decode cX5_fewestFor 94 = .ok (.iand, 1) := by decide +kernel
theorem dX5_fewestFor_95 : decode cX5_fewestFor 95 = .ok (.ifCond .ne 18, 3) := by decide +kernel
theorem dX5_fewestFor_98 : decode cX5_fewestFor 98 = .ok (.aload_n 1, 1) := by decide +kernel
theorem dX5_fewestFor_99 : decode cX5_fewestFor 99 = .ok (.iload 6, 2) := by decide +kernel
theorem dX5_fewestFor_101 : decode cX5_fewestFor 101 = .ok (.invokestatic 80, 3) := by decide +kernel
theorem dX5_fewestFor_104 : decode cX5_fewestFor 104 = .ok (.iload 4, 2) := by decide +kernel
theorem dX5_fewestFor_106 : decode cX5_fewestFor 106 = .ok (.if_icmp .lt 7, 3) := by decide +kernel
theorem dX5_fewestFor_109 : decode cX5_fewestFor 109 = .ok (.iload 6, 2) := by decide +kernel
theorem dX5_fewestFor_111 : decode cX5_fewestFor 111 = .ok (.istore 5, 2) := by decide +kernel
theorem dX5_fewestFor_113 : decode cX5_fewestFor 113 = .ok (.iinc 6 1, 3) := by decide +kernel
theorem dX5_fewestFor_116 : decode cX5_fewestFor 116 = .ok (.goto (-75), 3) := by decide +kernel
theorem dX5_fewestFor_119 : decode cX5_fewestFor 119 = .ok (.iload 5, 2) := by decide +kernel
theorem dX5_fewestFor_121 : decode cX5_fewestFor 121 = .ok (.ireturn, 1) := by decide +kernel
theorem dX5_stand_0 : decode cX5_stand 0 = .ok (.iload_n 2, 1) := by decide +kernel
theorem dX5_stand_1 : decode cX5_stand 1 = .ok (.aload_n 0, 1) := by decide +kernel
theorem dX5_stand_2 : decode cX5_stand 2 = .ok (.getfield 32, 3) := by decide +kernel
theorem dX5_stand_5 : decode cX5_stand 5 = .ok (.if_icmp .lt 9, 3) := by decide +kernel
theorem dX5_stand_8 : decode cX5_stand 8 = .ok (.aload_n 0, 1) := by decide +kernel
theorem dX5_stand_9 : decode cX5_stand 9 = .ok (.aload_n 1, 1) := by decide +kernel
theorem dX5_stand_10 : decode cX5_stand 10 = .ok (.invokevirtual 84, 3) := by decide +kernel
theorem dX5_stand_13 : decode cX5_stand 13 = .ok (.return_, 1) := by decide +kernel
theorem dX5_stand_14 : decode cX5_stand 14 = .ok (.aload_n 0, 1) := by decide +kernel
theorem dX5_stand_15 : decode cX5_stand 15 = .ok (.aload_n 1, 1) := by decide +kernel
theorem dX5_stand_16 : decode cX5_stand 16 = .ok (.getfield 35, 3) := by decide +kernel
theorem dX5_stand_19 : decode cX5_stand 19 = .ok (.iload_n 3, 1) := by decide +kernel
theorem dX5_stand_20 : decode cX5_stand 20 = .ok (.invokevirtual 88, 3) := by decide +kernel
theorem dX5_stand_23 : decode cX5_stand 23 = .ok (.istore 4, 2) := by decide +kernel
theorem dX5_stand_25 : decode cX5_stand 25 = .ok (.aload_n 1, 1) := by decide +kernel
theorem dX5_stand_26 : decode cX5_stand 26 = .ok (.getfield 46, 3) := by decide +kernel
theorem dX5_stand_29 : decode cX5_stand 29 = .ok (.iload_n 2, 1) := by decide +kernel
theorem dX5_stand_30 : decode cX5_stand 30 = .ok (.iaload, 1) := by decide +kernel
theorem dX5_stand_31 : decode cX5_stand 31 = .ok (.istore 5, 2) := by decide +kernel
theorem dX5_stand_33 : decode cX5_stand 33 = .ok (.iload 5, 2) := by decide +kernel
theorem dX5_stand_35 : decode cX5_stand 35 = .ok (.ifCond .ne 7, 3) := by decide +kernel
theorem dX5_stand_38 : decode cX5_stand 38 = .ok (.iconst 0, 1) := by decide +kernel
theorem dX5_stand_39 : decode cX5_stand 39 = .ok (.goto 12, 3) := by decide +kernel
theorem dX5_stand_42 : decode cX5_stand 42 = .ok (.aload_n 1, 1) := by decide +kernel
theorem dX5_stand_43 : decode cX5_stand 43 = .ok (.getfield 35, 3) := by decide +kernel
theorem dX5_stand_46 : decode cX5_stand 46 = .ok (.getfield 92, 3) := by decide +kernel
theorem dX5_stand_49 : decode cX5_stand 49 = .ok (.iconst 1, 1) := by decide +kernel
theorem dX5_stand_50 : decode cX5_stand 50 = .ok (.isub, 1) := by decide +kernel
theorem dX5_stand_51 : decode cX5_stand 51 = .ok (.istore 6, 2) := by decide +kernel
theorem dX5_stand_53 : decode cX5_stand 53 = .ok (.aload_n 0, 1) := by decide +kernel
theorem dX5_stand_54 : decode cX5_stand 54 = .ok (.aload_n 1, 1) := by decide +kernel
theorem dX5_stand_55 : decode cX5_stand 55 = .ok (.iload_n 2, 1) := by decide +kernel
theorem dX5_stand_56 : decode cX5_stand 56 = .ok (.invokevirtual 95, 3) := by decide +kernel
theorem dX5_stand_59 : decode cX5_stand 59 = .ok (.istore 7, 2) := by decide +kernel
theorem dX5_stand_61 : decode cX5_stand 61 = .ok (.iload 7, 2) := by decide +kernel
theorem dX5_stand_63 : decode cX5_stand 63 = .ok (.iload 6, 2) := by decide +kernel
theorem dX5_stand_65 : decode cX5_stand 65 = .ok (.if_icmp .gt 62, 3) := by decide +kernel
theorem dX5_stand_68 : decode cX5_stand 68 = .ok (.iload 4, 2) := by decide +kernel
theorem dX5_stand_70 : decode cX5_stand 70 = .ok (.aload_n 0, 1) := by decide +kernel
theorem dX5_stand_71 : decode cX5_stand 71 = .ok (.getfield 28, 3) := by decide +kernel
theorem dX5_stand_74 : decode cX5_stand 74 = .ok (.if_icmp .le 53, 3) := by decide +kernel
theorem dX5_stand_77 : decode cX5_stand 77 = .ok (.aload_n 0, 1) := by decide +kernel
theorem dX5_stand_78 : decode cX5_stand 78 = .ok (.getfield 25, 3) := by decide +kernel
theorem dX5_stand_81 : decode cX5_stand 81 = .ok (.iload_n 2, 1) := by decide +kernel
theorem dX5_stand_82 : decode cX5_stand 82 = .ok (.iload 7, 2) := by decide +kernel
theorem dX5_stand_84 : decode cX5_stand 84 = .ok (.iastore, 1) := by decide +kernel
theorem dX5_stand_85 : decode cX5_stand 85 = .ok (.aload_n 0, 1) := by decide +kernel
theorem dX5_stand_86 : decode cX5_stand 86 = .ok (.getfield 19, 3) := by decide +kernel
theorem dX5_stand_89 : decode cX5_stand 89 = .ok (.iload 7, 2) := by decide +kernel
theorem dX5_stand_91 : decode cX5_stand 91 = .ok (.dup2, 1) := by decide +kernel
theorem dX5_stand_92 : decode cX5_stand 92 = .ok (.iaload, 1) := by decide +kernel
theorem dX5_stand_93 : decode cX5_stand 93 = .ok (.iload 5, 2) := by decide +kernel
theorem dX5_stand_95 : decode cX5_stand 95 = .ok (.iadd, 1) := by decide +kernel
theorem dX5_stand_96 : decode cX5_stand 96 = .ok (.iastore, 1) := by decide +kernel
theorem dX5_stand_97 : decode cX5_stand 97 = .ok (.aload_n 0, 1) := by decide +kernel
theorem dX5_stand_98 : decode cX5_stand 98 = .ok (.aload_n 1, 1) := by decide +kernel
theorem dX5_stand_99 : decode cX5_stand 99 = .ok (.iload_n 2, 1) := by decide +kernel
theorem dX5_stand_100 : decode cX5_stand 100 = .ok (.iconst 1, 1) := by decide +kernel
theorem dX5_stand_101 : decode cX5_stand 101 = .ok (.iadd, 1) := by decide +kernel
theorem dX5_stand_102 : decode cX5_stand 102 = .ok (.iload_n 3, 1) := by decide +kernel
theorem dX5_stand_103 : decode cX5_stand 103 = .ok (.iload 5, 2) := by decide +kernel
theorem dX5_stand_105 : decode cX5_stand 105 = .ok (.isub, 1) := by decide +kernel
theorem dX5_stand_106 : decode cX5_stand 106 = .ok (.invokevirtual 55, 3) := by decide +kernel
theorem dX5_stand_109 : decode cX5_stand 109 = .ok (.aload_n 0, 1) := by decide +kernel
theorem dX5_stand_110 : decode cX5_stand 110 = .ok (.getfield 19, 3) := by decide +kernel
theorem dX5_stand_113 : decode cX5_stand 113 = .ok (.iload 7, 2) := by decide +kernel
theorem dX5_stand_115 : decode cX5_stand 115 = .ok (.dup2, 1) := by decide +kernel
theorem dX5_stand_116 : decode cX5_stand 116 = .ok (.iaload, 1) := by decide +kernel
theorem dX5_stand_117 : decode cX5_stand 117 = .ok (.iload 5, 2) := by decide +kernel
theorem dX5_stand_119 : decode cX5_stand 119 = .ok (.isub, 1) := by decide +kernel
theorem dX5_stand_120 : decode cX5_stand 120 = .ok (.iastore, 1) := by decide +kernel
theorem dX5_stand_121 : decode cX5_stand 121 = .ok (.iinc 7 1, 3) := by decide +kernel
theorem dX5_stand_124 : decode cX5_stand 124 = .ok (.goto (-63), 3) := by decide +kernel
theorem dX5_stand_127 : decode cX5_stand 127 = .ok (.return_, 1) := by decide +kernel
theorem dX5_standLast_0 : decode cX5_standLast 0 = .ok (.aload_n 1, 1) := by decide +kernel
theorem dX5_standLast_1 : decode cX5_standLast 1 = .ok (.getfield 35, 3) := by decide +kernel
theorem dX5_standLast_4 : decode cX5_standLast 4 = .ok (.astore_n 2, 1) := by decide +kernel
theorem dX5_standLast_5 : decode cX5_standLast 5 = .ok (.aload_n 0, 1) := by decide +kernel
theorem dX5_standLast_6 : decode cX5_standLast 6 = .ok (.getfield 22, 3) := by decide +kernel
theorem dX5_standLast_9 : decode cX5_standLast 9 = .ok (.iconst 0, 1) := by decide +kernel
theorem dX5_standLast_10 : decode cX5_standLast 10 = .ok (.invokestatic 49, 3) := by decide +kernel
theorem dX5_standLast_13 : decode cX5_standLast 13 = .ok (.iconst 0, 1) := by decide +kernel
theorem dX5_standLast_14 : decode cX5_standLast 14 = .ok (.istore_n 3, 1) := by decide +kernel
theorem dX5_standLast_15 : decode cX5_standLast 15 = .ok (.iconst 0, 1) := by decide +kernel
theorem dX5_standLast_16 : decode cX5_standLast 16 = .ok (.istore 4, 2) := by decide +kernel
theorem dX5_standLast_18 : decode cX5_standLast 18 = .ok (.iload 4, 2) := by decide +kernel
theorem dX5_standLast_20 : decode cX5_standLast 20 = .ok (.aload_n 2, 1) := by decide +kernel
theorem dX5_standLast_21 : decode cX5_standLast 21 = .ok (.getfield 98, 3) := by decide +kernel
theorem dX5_standLast_24 : decode cX5_standLast 24 = .ok (.if_icmp .ge 101, 3) := by decide +kernel
theorem dX5_standLast_27 : decode cX5_standLast 27 = .ok (.aload_n 2, 1) := by decide +kernel
theorem dX5_standLast_28 : decode cX5_standLast 28 = .ok (.getfield 101, 3) := by decide +kernel
theorem dX5_standLast_31 : decode cX5_standLast 31 = .ok (.iload 4, 2) := by decide +kernel
theorem dX5_standLast_33 : decode cX5_standLast 33 = .ok (.iaload, 1) := by decide +kernel
theorem dX5_standLast_34 : decode cX5_standLast 34 = .ok (.aload_n 0, 1) := by decide +kernel
theorem dX5_standLast_35 : decode cX5_standLast 35 = .ok (.getfield 19, 3) := by decide +kernel
theorem dX5_standLast_38 : decode cX5_standLast 38 = .ok (.aload_n 2, 1) := by decide +kernel
theorem dX5_standLast_39 : decode cX5_standLast 39 = .ok (.getfield 59, 3) := by decide +kernel
theorem dX5_standLast_42 : decode cX5_standLast 42 = .ok (.iload 4, 2) := by decide +kernel
theorem dX5_standLast_44 : decode cX5_standLast 44 = .ok (.iaload, 1) := by decide +kernel
theorem dX5_standLast_45 : decode cX5_standLast 45 = .ok (.iaload, 1) := by decide +kernel
theorem dX5_standLast_46 : decode cX5_standLast 46 = .ok (.isub, 1) := by decide +kernel
theorem dX5_standLast_47 : decode cX5_standLast 47 = .ok (.aload_n 0, 1) := by decide +kernel
theorem dX5_standLast_48 : decode cX5_standLast 48 = .ok (.getfield 19, 3) := by decide +kernel
theorem dX5_standLast_51 : decode cX5_standLast 51 = .ok (.aload_n 2, 1) := by decide +kernel
theorem dX5_standLast_52 : decode cX5_standLast 52 = .ok (.getfield 66, 3) := by decide +kernel
theorem dX5_standLast_55 : decode cX5_standLast 55 = .ok (.iload 4, 2) := by decide +kernel
theorem dX5_standLast_57 : decode cX5_standLast 57 = .ok (.iaload, 1) := by decide +kernel
theorem dX5_standLast_58 : decode cX5_standLast 58 = .ok (.iaload, 1) := by decide +kernel
theorem dX5_standLast_59 : decode cX5_standLast 59 = .ok (.isub, 1) := by decide +kernel
theorem dX5_standLast_60 : decode cX5_standLast 60 = .ok (.istore 5, 2) := by decide +kernel
theorem dX5_standLast_62 : decode cX5_standLast 62 = .ok (.iload 5, 2) := by decide +kernel
theorem dX5_standLast_64 : decode cX5_standLast 64 = .ok (.ifCond .gt 9, 3) := by decide +kernel
theorem dX5_standLast_67 : decode cX5_standLast 67 = .ok (.iinc 3 1, 3) := by decide +kernel
theorem dX5_standLast_70 : decode cX5_standLast 70 = .ok (.goto 49, 3) := by decide +kernel
theorem dX5_standLast_73 : decode cX5_standLast 73 = .ok (.iload 5, 2) := by decide +kernel
theorem dX5_standLast_75 : decode cX5_standLast 75 = .ok (.aload_n 1, 1) := by decide +kernel
theorem dX5_standLast_76 : decode cX5_standLast 76 = .ok (.getfield 46, 3) := by decide +kernel
theorem dX5_standLast_79 : decode cX5_standLast 79 = .ok (.aload_n 0, 1) := by decide +kernel
theorem dX5_standLast_80 : decode cX5_standLast 80 = .ok (.getfield 32, 3) := by decide +kernel
theorem dX5_standLast_83 : decode cX5_standLast 83 = .ok (.iaload, 1) := by decide +kernel
theorem dX5_standLast_84 : decode cX5_standLast 84 = .ok (.if_icmp .gt 35, 3) := by decide +kernel
theorem dX5_standLast_87 : decode cX5_standLast 87 = .ok (.aload_n 0, 1) := by decide +kernel
theorem dX5_standLast_88 : decode cX5_standLast 88 = .ok (.getfield 22, 3) := by decide +kernel
theorem dX5_standLast_91 : decode cX5_standLast 91 = .ok (.aload_n 2, 1) := by decide +kernel
theorem dX5_standLast_92 : decode cX5_standLast 92 = .ok (.getfield 59, 3) := by decide +kernel
theorem dX5_standLast_95 : decode cX5_standLast 95 = .ok (.iload 4, 2) := by decide +kernel
theorem dX5_standLast_97 : decode cX5_standLast 97 = .ok (.iaload, 1) := by decide +kernel
theorem dX5_standLast_98 : decode cX5_standLast 98 = .ok (.dup2, 1) := by decide +kernel
theorem dX5_standLast_99 : decode cX5_standLast 99 = .ok (.iaload, 1) := by decide +kernel
theorem dX5_standLast_100 : decode cX5_standLast 100 = .ok (.iconst 1, 1) := by decide +kernel
theorem dX5_standLast_101 : decode cX5_standLast 101 = .ok (.iadd, 1) := by decide +kernel
theorem dX5_standLast_102 : decode cX5_standLast 102 = .ok (.iastore, 1) := by decide +kernel
theorem dX5_standLast_103 : decode cX5_standLast 103 = .ok (.aload_n 0, 1) := by decide +kernel
theorem dX5_standLast_104 : decode cX5_standLast 104 = .ok (.getfield 22, 3) := by decide +kernel
theorem dX5_standLast_107 : decode cX5_standLast 107 = .ok (.aload_n 2, 1) := by decide +kernel
theorem dX5_standLast_108 : decode cX5_standLast 108 = .ok (.getfield 66, 3) := by decide +kernel
theorem dX5_standLast_111 : decode cX5_standLast 111 = .ok (.iload 4, 2) := by decide +kernel
theorem dX5_standLast_113 : decode cX5_standLast 113 = .ok (.iaload, 1) := by decide +kernel
theorem dX5_standLast_114 : decode cX5_standLast 114 = .ok (.dup2, 1) := by decide +kernel
theorem dX5_standLast_115 : decode cX5_standLast 115 = .ok (.iaload, 1) := by decide +kernel
theorem dX5_standLast_116 : decode cX5_standLast 116 = .ok (.iconst 1, 1) := by decide +kernel
theorem dX5_standLast_117 : decode cX5_standLast 117 = .ok (.iadd, 1) := by decide +kernel
theorem dX5_standLast_118 : decode cX5_standLast 118 = .ok (.iastore, 1) := by decide +kernel
theorem dX5_standLast_119 : decode cX5_standLast 119 = .ok (.iinc 4 1, 3) := by decide +kernel
theorem dX5_standLast_122 : decode cX5_standLast 122 = .ok (.goto (-104), 3) := by decide +kernel
theorem dX5_standLast_125 : decode cX5_standLast 125 = .ok (.iconst 0, 1) := by decide +kernel
theorem dX5_standLast_126 : decode cX5_standLast 126 = .ok (.istore 4, 2) := by decide +kernel
theorem dX5_standLast_128 : decode cX5_standLast 128 = .ok (.iload 4, 2) := by decide +kernel
theorem dX5_standLast_130 : decode cX5_standLast 130 = .ok (.aload_n 2, 1) := by decide +kernel
theorem dX5_standLast_131 : decode cX5_standLast 131 = .ok (.getfield 92, 3) := by decide +kernel
theorem dX5_standLast_134 : decode cX5_standLast 134 = .ok (.if_icmp .ge 64, 3) := by decide +kernel
theorem dX5_standLast_137 : decode cX5_standLast 137 = .ok (.iload_n 3, 1) := by decide +kernel
theorem dX5_standLast_138 : decode cX5_standLast 138 = .ok (.aload_n 0, 1) := by decide +kernel
theorem dX5_standLast_139 : decode cX5_standLast 139 = .ok (.getfield 22, 3) := by decide +kernel
theorem dX5_standLast_142 : decode cX5_standLast 142 = .ok (.iload 4, 2) := by decide +kernel
theorem dX5_standLast_144 : decode cX5_standLast 144 = .ok (.iaload, 1) := by decide +kernel
theorem dX5_standLast_145 : decode cX5_standLast 145 = .ok (.iadd, 1) := by decide +kernel
theorem dX5_standLast_146 : decode cX5_standLast 146 = .ok (.aload_n 0, 1) := by decide +kernel
theorem dX5_standLast_147 : decode cX5_standLast 147 = .ok (.getfield 28, 3) := by decide +kernel
theorem dX5_standLast_150 : decode cX5_standLast 150 = .ok (.if_icmp .le 42, 3) := by decide +kernel
theorem dX5_standLast_153 : decode cX5_standLast 153 = .ok (.aload_n 0, 1) := by decide +kernel
theorem dX5_standLast_154 : decode cX5_standLast 154 = .ok (.iload_n 3, 1) := by decide +kernel
theorem dX5_standLast_155 : decode cX5_standLast 155 = .ok (.aload_n 0, 1) := by decide +kernel
theorem dX5_standLast_156 : decode cX5_standLast 156 = .ok (.getfield 22, 3) := by decide +kernel
theorem dX5_standLast_159 : decode cX5_standLast 159 = .ok (.iload 4, 2) := by decide +kernel
theorem dX5_standLast_161 : decode cX5_standLast 161 = .ok (.iaload, 1) := by decide +kernel
theorem dX5_standLast_162 : decode cX5_standLast 162 = .ok (.iadd, 1) := by decide +kernel
theorem dX5_standLast_163 : decode cX5_standLast 163 = .ok (.putfield 28, 3) := by decide +kernel
theorem dX5_standLast_166 : decode cX5_standLast 166 = .ok (.aload_n 0, 1) := by decide +kernel
theorem dX5_standLast_167 : decode cX5_standLast 167 = .ok (.getfield 25, 3) := by decide +kernel
theorem dX5_standLast_170 : decode cX5_standLast 170 = .ok (.aload_n 0, 1) := by decide +kernel
theorem dX5_standLast_171 : decode cX5_standLast 171 = .ok (.getfield 32, 3) := by decide +kernel
theorem dX5_standLast_174 : decode cX5_standLast 174 = .ok (.iload 4, 2) := by decide +kernel
theorem dX5_standLast_176 : decode cX5_standLast 176 = .ok (.iastore, 1) := by decide +kernel
theorem dX5_standLast_177 : decode cX5_standLast 177 = .ok (.aload_n 0, 1) := by decide +kernel
theorem dX5_standLast_178 : decode cX5_standLast 178 = .ok (.getfield 25, 3) := by decide +kernel
theorem dX5_standLast_181 : decode cX5_standLast 181 = .ok (.iconst 0, 1) := by decide +kernel
theorem dX5_standLast_182 : decode cX5_standLast 182 = .ok (.aload_n 0, 1) := by decide +kernel
theorem dX5_standLast_183 : decode cX5_standLast 183 = .ok (.getfield 9, 3) := by decide +kernel
theorem dX5_standLast_186 : decode cX5_standLast 186 = .ok (.iconst 0, 1) := by decide +kernel
theorem dX5_standLast_187 : decode cX5_standLast 187 = .ok (.bipush 6, 2) := by decide +kernel
theorem dX5_standLast_189 : decode cX5_standLast 189 = .ok (.invokestatic 104, 3) := by decide +kernel
theorem dX5_standLast_192 : decode cX5_standLast 192 = .ok (.iinc 4 1, 3) := by decide +kernel
theorem dX5_standLast_195 : decode cX5_standLast 195 = .ok (.goto (-67), 3) := by decide +kernel
theorem dX5_standLast_198 : decode cX5_standLast 198 = .ok (.return_, 1) := by decide +kernel
theorem dX5_lowestFor_0 : decode cX5_lowestFor 0 = .ok (.iload_n 2, 1) := by decide +kernel
theorem dX5_lowestFor_1 : decode cX5_lowestFor 1 = .ok (.iconst 1, 1) := by decide +kernel
theorem dX5_lowestFor_2 : decode cX5_lowestFor 2 = .ok (.isub, 1) := by decide +kernel
theorem dX5_lowestFor_3 : decode cX5_lowestFor 3 = .ok (.istore_n 3, 1) := by decide +kernel
theorem dX5_lowestFor_4 : decode cX5_lowestFor 4 = .ok (.iload_n 3, 1) := by decide +kernel
theorem dX5_lowestFor_5 : decode cX5_lowestFor 5 = .ok (.ifCond .lt 31, 3) := by decide +kernel
theorem dX5_lowestFor_8 : decode cX5_lowestFor 8 = .ok (.aload_n 1, 1) := by decide +kernel
theorem dX5_lowestFor_9 : decode cX5_lowestFor 9 = .ok (.getfield 46, 3) := by decide +kernel
theorem dX5_lowestFor_12 : decode cX5_lowestFor 12 = .ok (.iload_n 3, 1) := by decide +kernel
theorem dX5_lowestFor_13 : decode cX5_lowestFor 13 = .ok (.iaload, 1) := by decide +kernel
theorem dX5_lowestFor_14 : decode cX5_lowestFor 14 = .ok (.aload_n 1, 1) := by decide +kernel
theorem dX5_lowestFor_15 : decode cX5_lowestFor 15 = .ok (.getfield 46, 3) := by decide +kernel
theorem dX5_lowestFor_18 : decode cX5_lowestFor 18 = .ok (.iload_n 2, 1) := by decide +kernel
theorem dX5_lowestFor_19 : decode cX5_lowestFor 19 = .ok (.iaload, 1) := by decide +kernel
theorem dX5_lowestFor_20 : decode cX5_lowestFor 20 = .ok (.if_icmp .ne 10, 3) := by decide +kernel
theorem dX5_lowestFor_23 : decode cX5_lowestFor 23 = .ok (.aload_n 0, 1) := by decide +kernel
theorem dX5_lowestFor_24 : decode cX5_lowestFor 24 = .ok (.getfield 25, 3) := by decide +kernel
theorem dX5_lowestFor_27 : decode cX5_lowestFor 27 = .ok (.iload_n 3, 1) := by decide +kernel
theorem dX5_lowestFor_28 : decode cX5_lowestFor 28 = .ok (.iaload, 1) := by decide +kernel
theorem dX5_lowestFor_29 : decode cX5_lowestFor 29 = .ok (.ireturn, 1) := by decide +kernel
theorem dX5_lowestFor_30 : decode cX5_lowestFor 30 = .ok (.iinc 3 (-1), 3) := by decide +kernel
theorem dX5_lowestFor_33 : decode cX5_lowestFor 33 = .ok (.goto (-29), 3) := by decide +kernel
theorem dX5_lowestFor_36 : decode cX5_lowestFor 36 = .ok (.iconst 0, 1) := by decide +kernel
theorem dX5_lowestFor_37 : decode cX5_lowestFor 37 = .ok (.ireturn, 1) := by decide +kernel
theorem dX5_litWith_0 : decode cX5_litWith 0 = .ok (.iconst 0, 1) := by decide +kernel
theorem dX5_litWith_1 : decode cX5_litWith 1 = .ok (.istore_n 3, 1) := by decide +kernel
theorem dX5_litWith_2 : decode cX5_litWith 2 = .ok (.iconst 0, 1) := by decide +kernel
theorem dX5_litWith_3 : decode cX5_litWith 3 = .ok (.istore 4, 2) := by decide +kernel
theorem dX5_litWith_5 : decode cX5_litWith 5 = .ok (.iload 4, 2) := by decide +kernel
theorem dX5_litWith_7 : decode cX5_litWith 7 = .ok (.aload_n 1, 1) := by decide +kernel
theorem dX5_litWith_8 : decode cX5_litWith 8 = .ok (.getfield 98, 3) := by decide +kernel
theorem dX5_litWith_11 : decode cX5_litWith 11 = .ok (.if_icmp .ge 49, 3) := by decide +kernel
theorem dX5_litWith_14 : decode cX5_litWith 14 = .ok (.aload_n 0, 1) := by decide +kernel
theorem dX5_litWith_15 : decode cX5_litWith 15 = .ok (.getfield 19, 3) := by decide +kernel
theorem dX5_litWith_18 : decode cX5_litWith 18 = .ok (.aload_n 1, 1) := by decide +kernel
theorem dX5_litWith_19 : decode cX5_litWith 19 = .ok (.getfield 59, 3) := by decide +kernel
theorem dX5_litWith_22 : decode cX5_litWith 22 = .ok (.iload 4, 2) := by decide +kernel
theorem dX5_litWith_24 : decode cX5_litWith 24 = .ok (.iaload, 1) := by decide +kernel
theorem dX5_litWith_25 : decode cX5_litWith 25 = .ok (.iaload, 1) := by decide +kernel
theorem dX5_litWith_26 : decode cX5_litWith 26 = .ok (.aload_n 0, 1) := by decide +kernel
theorem dX5_litWith_27 : decode cX5_litWith 27 = .ok (.getfield 19, 3) := by decide +kernel
theorem dX5_litWith_30 : decode cX5_litWith 30 = .ok (.aload_n 1, 1) := by decide +kernel
theorem dX5_litWith_31 : decode cX5_litWith 31 = .ok (.getfield 66, 3) := by decide +kernel
theorem dX5_litWith_34 : decode cX5_litWith 34 = .ok (.iload 4, 2) := by decide +kernel
theorem dX5_litWith_36 : decode cX5_litWith 36 = .ok (.iaload, 1) := by decide +kernel
theorem dX5_litWith_37 : decode cX5_litWith 37 = .ok (.iaload, 1) := by decide +kernel
theorem dX5_litWith_38 : decode cX5_litWith 38 = .ok (.iadd, 1) := by decide +kernel
theorem dX5_litWith_39 : decode cX5_litWith 39 = .ok (.iload_n 2, 1) := by decide +kernel
theorem dX5_litWith_40 : decode cX5_litWith 40 = .ok (.iadd, 1) := by decide +kernel
theorem dX5_litWith_41 : decode cX5_litWith 41 = .ok (.aload_n 1, 1) := by decide +kernel
theorem dX5_litWith_42 : decode cX5_litWith 42 = .ok (.getfield 101, 3) := by decide +kernel
theorem dX5_litWith_45 : decode cX5_litWith 45 = .ok (.iload 4, 2) := by decide +kernel
theorem dX5_litWith_47 : decode cX5_litWith 47 = .ok (.iaload, 1) := by decide +kernel
theorem dX5_litWith_48 : decode cX5_litWith 48 = .ok (.if_icmp .lt 6, 3) := by decide +kernel
theorem dX5_litWith_51 : decode cX5_litWith 51 = .ok (.iinc 3 1, 3) := by decide +kernel
theorem dX5_litWith_54 : decode cX5_litWith 54 = .ok (.iinc 4 1, 3) := by decide +kernel
theorem dX5_litWith_57 : decode cX5_litWith 57 = .ok (.goto (-52), 3) := by decide +kernel
theorem dX5_litWith_60 : decode cX5_litWith 60 = .ok (.iload_n 3, 1) := by decide +kernel
theorem dX5_litWith_61 : decode cX5_litWith 61 = .ok (.ireturn, 1) := by decide +kernel
theorem dX5_glowOf_0 : decode cX5_glowOf 0 = .ok (.iconst 0, 1) := by decide +kernel
theorem dX5_glowOf_1 : decode cX5_glowOf 1 = .ok (.istore_n 2, 1) := by decide +kernel
theorem dX5_glowOf_2 : decode cX5_glowOf 2 = .ok (.iconst 0, 1) := by decide +kernel
theorem dX5_glowOf_3 : decode cX5_glowOf 3 = .ok (.istore_n 3, 1) := by decide +kernel
theorem dX5_glowOf_4 : decode cX5_glowOf 4 = .ok (.iload_n 3, 1) := by decide +kernel
theorem dX5_glowOf_5 : decode cX5_glowOf 5 = .ok (.aload_n 0, 1) := by decide +kernel
theorem dX5_glowOf_6 : decode cX5_glowOf 6 = .ok (.getfield 35, 3) := by decide +kernel
theorem dX5_glowOf_9 : decode cX5_glowOf 9 = .ok (.getfield 41, 3) := by decide +kernel
theorem dX5_glowOf_12 : decode cX5_glowOf 12 = .ok (.if_icmp .ge 27, 3) := by decide +kernel
theorem dX5_glowOf_15 : decode cX5_glowOf 15 = .ok (.iload_n 1, 1) := by decide +kernel
theorem dX5_glowOf_16 : decode cX5_glowOf 16 = .ok (.iload_n 3, 1) := by decide +kernel
theorem dX5_glowOf_17 : decode cX5_glowOf 17 = .ok (.ishr, 1) := by decide +kernel
theorem dX5_glowOf_18 : decode cX5_glowOf 18 = .ok (.iconst 1, 1) := by decide +kernel
theorem dX5_glowOf_19 : decode cX5_glowOf 19 = .ok (.iand, 1) := by decide +kernel
theorem dX5_glowOf_20 : decode cX5_glowOf 20 = .ok (.iconst 1, 1) := by decide +kernel
theorem dX5_glowOf_21 : decode cX5_glowOf 21 = .ok (.if_icmp .ne 12, 3) := by decide +kernel
theorem dX5_glowOf_24 : decode cX5_glowOf 24 = .ok (.iload_n 2, 1) := by decide +kernel
theorem dX5_glowOf_25 : decode cX5_glowOf 25 = .ok (.aload_n 0, 1) := by decide +kernel
theorem dX5_glowOf_26 : decode cX5_glowOf 26 = .ok (.getfield 46, 3) := by decide +kernel
theorem dX5_glowOf_29 : decode cX5_glowOf 29 = .ok (.iload_n 3, 1) := by decide +kernel
theorem dX5_glowOf_30 : decode cX5_glowOf 30 = .ok (.iaload, 1) := by decide +kernel
theorem dX5_glowOf_31 : decode cX5_glowOf 31 = .ok (.iadd, 1) := by decide +kernel
theorem dX5_glowOf_32 : decode cX5_glowOf 32 = .ok (.istore_n 2, 1) := by decide +kernel
theorem dX5_glowOf_33 : decode cX5_glowOf 33 = .ok (.iinc 3 1, 3) := by decide +kernel
theorem dX5_glowOf_36 : decode cX5_glowOf 36 = .ok (.goto (-32), 3) := by decide +kernel
theorem dX5_glowOf_39 : decode cX5_glowOf 39 = .ok (.iload_n 2, 1) := by decide +kernel
theorem dX5_glowOf_40 : decode cX5_glowOf 40 = .ok (.ireturn, 1) := by decide +kernel
theorem dX6_init_0 : decode cX6_init 0 = .ok (.aload_n 0, 1) := by decide +kernel
theorem dX6_init_1 : decode cX6_init 1 = .ok (.invokespecial 3, 3) := by decide +kernel
theorem dX6_init_4 : decode cX6_init 4 = .ok (.aload_n 0, 1) := by decide +kernel
theorem dX6_init_5 : decode cX6_init 5 = .ok (.new 9, 3) := by decide +kernel
theorem dX6_init_8 : decode cX6_init 8 = .ok (.dup, 1) := by decide +kernel
theorem dX6_init_9 : decode cX6_init 9 = .ok (.invokespecial 11, 3) := by decide +kernel
theorem dX6_init_12 : decode cX6_init 12 = .ok (.putfield 12, 3) := by decide +kernel
theorem dX6_init_15 : decode cX6_init 15 = .ok (.aload_n 0, 1) := by decide +kernel
theorem dX6_init_16 : decode cX6_init 16 = .ok (.bipush 18, 2) := by decide +kernel
theorem dX6_init_18 : decode cX6_init 18 = .ok (.newarray .long, 2) := by decide +kernel
theorem dX6_init_20 : decode cX6_init 20 = .ok (.putfield 18, 3) := by decide +kernel
theorem dX6_init_23 : decode cX6_init 23 = .ok (.aload_n 0, 1) := by decide +kernel
theorem dX6_init_24 : decode cX6_init 24 = .ok (.bipush 18, 2) := by decide +kernel
theorem dX6_init_26 : decode cX6_init 26 = .ok (.newarray .int, 2) := by decide +kernel
theorem dX6_init_28 : decode cX6_init 28 = .ok (.putfield 22, 3) := by decide +kernel
theorem dX6_init_31 : decode cX6_init 31 = .ok (.aload_n 0, 1) := by decide +kernel
theorem dX6_init_32 : decode cX6_init 32 = .ok (.aload_n 1, 1) := by decide +kernel
theorem dX6_init_33 : decode cX6_init 33 = .ok (.putfield 26, 3) := by decide +kernel
theorem dX6_init_36 : decode cX6_init 36 = .ok (.return_, 1) := by decide +kernel
theorem dX6_readInto_0 : decode cX6_readInto 0 = .ok (.aload_n 0, 1) := by decide +kernel
theorem dX6_readInto_1 : decode cX6_readInto 1 = .ok (.aload_n 1, 1) := by decide +kernel
theorem dX6_readInto_2 : decode cX6_readInto 2 = .ok (.aload_n 2, 1) := by decide +kernel
theorem dX6_readInto_3 : decode cX6_readInto 3 = .ok (.invokevirtual 30, 3) := by decide +kernel
theorem dX6_readInto_6 : decode cX6_readInto 6 = .ok (.iconst 0, 1) := by decide +kernel
theorem dX6_readInto_7 : decode cX6_readInto 7 = .ok (.istore_n 3, 1) := by decide +kernel
theorem dX6_readInto_8 : decode cX6_readInto 8 = .ok (.iload_n 3, 1) := by decide +kernel
theorem dX6_readInto_9 : decode cX6_readInto 9 = .ok (.sipush 401, 3) := by decide +kernel
theorem dX6_readInto_12 : decode cX6_readInto 12 = .ok (.if_icmp .ge 195, 3) := by decide +kernel
theorem dX6_readInto_15 : decode cX6_readInto 15 = .ok (.aload_n 0, 1) := by decide +kernel
theorem dX6_readInto_16 : decode cX6_readInto 16 = .ok (.getfield 34, 3) := by decide +kernel
theorem dX6_readInto_19 : decode cX6_readInto 19 = .ok (.ifCond .ne 188, 3) := by decide +kernel
theorem dX6_readInto_22 : decode cX6_readInto 22 = .ok (.aload_n 0, 1) := by decide +kernel
theorem dX6_readInto_23 : decode cX6_readInto 23 = .ok (.invokevirtual 38, 3) := by decide +kernel
theorem dX6_readInto_26 : decode cX6_readInto 26 = .ok (.ifCond .eq 181, 3) := by decide +kernel
theorem dX6_readInto_29 : decode cX6_readInto 29 = .ok (.aload_n 0, 1) := by decide +kernel
theorem dX6_readInto_30 : decode cX6_readInto 30 = .ok (.invokevirtual 38, 3) := by decide +kernel
theorem dX6_readInto_33 : decode cX6_readInto 33 = .ok (.istore 4, 2) := by decide +kernel
theorem dX6_readInto_35 : decode cX6_readInto 35 = .ok (.iload 4, 2) := by decide +kernel
theorem dX6_readInto_37 : decode cX6_readInto 37 = .ok (.tableswitch 148 128 138 #[59, 66, 73, 80, 87, 148, 148, 148, 148, 105, 126], 59) := by decide +kernel
theorem dX6_readInto_96 : decode cX6_readInto 96 = .ok (.aload_n 0, 1) := by decide +kernel
theorem dX6_readInto_97 : decode cX6_readInto 97 = .ok (.invokevirtual 42, 3) := by decide +kernel
theorem dX6_readInto_100 : decode cX6_readInto 100 = .ok (.goto 95, 3) := by decide +kernel
theorem dX6_readInto_103 : decode cX6_readInto 103 = .ok (.aload_n 0, 1) := by decide +kernel
theorem dX6_readInto_104 : decode cX6_readInto 104 = .ok (.invokevirtual 45, 3) := by decide +kernel
theorem dX6_readInto_107 : decode cX6_readInto 107 = .ok (.goto 88, 3) := by decide +kernel
theorem dX6_readInto_110 : decode cX6_readInto 110 = .ok (.aload_n 0, 1) := by decide +kernel
theorem dX6_readInto_111 : decode cX6_readInto 111 = .ok (.invokevirtual 48, 3) := by decide +kernel
theorem dX6_readInto_114 : decode cX6_readInto 114 = .ok (.goto 81, 3) := by decide +kernel
theorem dX6_readInto_117 : decode cX6_readInto 117 = .ok (.aload_n 0, 1) := by decide +kernel
theorem dX6_readInto_118 : decode cX6_readInto 118 = .ok (.invokevirtual 51, 3) := by decide +kernel
theorem dX6_readInto_121 : decode cX6_readInto 121 = .ok (.goto 74, 3) := by decide +kernel
theorem dX6_readInto_124 : decode cX6_readInto 124 = .ok (.aload_n 0, 1) := by decide +kernel
theorem dX6_readInto_125 : decode cX6_readInto 125 = .ok (.invokevirtual 54, 3) := by decide +kernel
theorem dX6_readInto_128 : decode cX6_readInto 128 = .ok (.aload_n 0, 1) := by decide +kernel
theorem dX6_readInto_129 : decode cX6_readInto 129 = .ok (.getfield 26, 3) := by decide +kernel
theorem dX6_readInto_132 : decode cX6_readInto 132 = .ok (.aload_n 0, 1) := by decide +kernel
theorem dX6_readInto_133 : decode cX6_readInto 133 = .ok (.invokevirtual 57, 3) := by decide +kernel
theorem dX6_readInto_136 : decode cX6_readInto 136 = .ok (.putfield 60, 3) := by decide +kernel
theorem dX6_readInto_139 : decode cX6_readInto 139 = .ok (.goto 56, 3) := by decide +kernel
theorem dX6_readInto_142 : decode cX6_readInto 142 = .ok (.aload_n 0, 1) := by decide +kernel
theorem dX6_readInto_143 : decode cX6_readInto 143 = .ok (.invokevirtual 54, 3) := by decide +kernel
theorem dX6_readInto_146 : decode cX6_readInto 146 = .ok (.aload_n 0, 1) := by decide +kernel
theorem dX6_readInto_147 : decode cX6_readInto 147 = .ok (.getfield 26, 3) := by decide +kernel
theorem dX6_readInto_150 : decode cX6_readInto 150 = .ok (.aload_n 0, 1) := by decide +kernel
theorem dX6_readInto_151 : decode cX6_readInto 151 = .ok (.iconst 0, 1) := by decide +kernel
theorem dX6_readInto_152 : decode cX6_readInto 152 = .ok (.bipush 100, 2) := by decide +kernel
theorem dX6_readInto_154 : decode cX6_readInto 154 = .ok (.invokevirtual 65, 3) := by decide +kernel
theorem dX6_readInto_157 : decode cX6_readInto 157 = .ok (.putfield 69, 3) := by decide +kernel
theorem dX6_readInto_160 : decode cX6_readInto 160 = .ok (.goto 35, 3) := by decide +kernel
theorem dX6_readInto_163 : decode cX6_readInto 163 = .ok (.aload_n 0, 1) := by decide +kernel
theorem dX6_readInto_164 : decode cX6_readInto 164 = .ok (.invokevirtual 54, 3) := by decide +kernel
theorem dX6_readInto_167 : decode cX6_readInto 167 = .ok (.aload_n 0, 1) := by decide +kernel
theorem dX6_readInto_168 : decode cX6_readInto 168 = .ok (.getfield 26, 3) := by decide +kernel
theorem dX6_readInto_171 : decode cX6_readInto 171 = .ok (.aload_n 0, 1) := by decide +kernel
theorem dX6_readInto_172 : decode cX6_readInto 172 = .ok (.iconst 0, 1) := by decide +kernel
theorem dX6_readInto_173 : decode cX6_readInto 173 = .ok (.sipush 9999, 3) := by decide +kernel
theorem dX6_readInto_176 : decode cX6_readInto 176 = .ok (.invokevirtual 65, 3) := by decide +kernel
theorem dX6_readInto_179 : decode cX6_readInto 179 = .ok (.putfield 72, 3) := by decide +kernel
theorem dX6_readInto_182 : decode cX6_readInto 182 = .ok (.goto 13, 3) := by decide +kernel
theorem dX6_readInto_185 : decode cX6_readInto 185 = .ok (.aload_n 0, 1) := by decide +kernel
theorem dX6_readInto_186 : decode cX6_readInto 186 = .ok (.iload 4, 2) := by decide +kernel
theorem dX6_readInto_188 : decode cX6_readInto 188 = .ok (.sipush 133, 3) := by decide +kernel
theorem dX6_readInto_191 : decode cX6_readInto 191 = .ok (.isub, 1) := by decide +kernel
theorem dX6_readInto_192 : decode cX6_readInto 192 = .ok (.invokevirtual 75, 3) := by decide +kernel
theorem dX6_readInto_195 : decode cX6_readInto 195 = .ok (.aload_n 0, 1) := by decide +kernel
theorem dX6_readInto_196 : decode cX6_readInto 196 = .ok (.bipush 59, 2) := by decide +kernel
theorem dX6_readInto_198 : decode cX6_readInto 198 = .ok (.invokevirtual 79, 3) := by decide +kernel
theorem dX6_readInto_201 : decode cX6_readInto 201 = .ok (.iinc 3 1, 3) := by decide +kernel
theorem dX6_readInto_204 : decode cX6_readInto 204 = .ok (.goto (-196), 3) := by decide +kernel
theorem dX6_readInto_207 : decode cX6_readInto 207 = .ok (.aload_n 0, 1) := by decide +kernel
theorem dX6_readInto_208 : decode cX6_readInto 208 = .ok (.getfield 34, 3) := by decide +kernel
theorem dX6_readInto_211 : decode cX6_readInto 211 = .ok (.ifCond .ne 19, 3) := by decide +kernel
theorem dX6_readInto_214 : decode cX6_readInto 214 = .ok (.aload_n 0, 1) := by decide +kernel
theorem dX6_readInto_215 : decode cX6_readInto 215 = .ok (.aload_n 0, 1) := by decide +kernel
theorem dX6_readInto_216 : decode cX6_readInto 216 = .ok (.getfield 82, 3) := by decide +kernel
theorem dX6_readInto_219 : decode cX6_readInto 219 = .ok (.putfield 34, 3) := by decide +kernel
theorem dX6_readInto_222 : decode cX6_readInto 222 = .ok (.aload_n 0, 1) := by decide +kernel
theorem dX6_readInto_223 : decode cX6_readInto 223 = .ok (.aload_n 0, 1) := by decide +kernel
theorem dX6_readInto_224 : decode cX6_readInto 224 = .ok (.getfield 85, 3) := by decide +kernel
theorem dX6_readInto_227 : decode cX6_readInto 227 = .ok (.putfield 88, 3) := by decide +kernel
theorem dX6_readInto_230 : decode cX6_readInto 230 = .ok (.aload_n 0, 1) := by decide +kernel
theorem dX6_readInto_231 : decode cX6_readInto 231 = .ok (.getfield 34, 3) := by decide +kernel
theorem dX6_readInto_234 : decode cX6_readInto 234 = .ok (.ireturn, 1) := by decide +kernel
theorem dX6_start_0 : decode cX6_start 0 = .ok (.aload_n 0, 1) := by decide +kernel
theorem dX6_start_1 : decode cX6_start 1 = .ok (.getfield 12, 3) := by decide +kernel
theorem dX6_start_4 : decode cX6_start 4 = .ok (.aload_n 1, 1) := by decide +kernel
theorem dX6_start_5 : decode cX6_start 5 = .ok (.invokevirtual 91, 3) := by decide +kernel
theorem dX6_start_8 : decode cX6_start 8 = .ok (.aload_n 2, 1) := by decide +kernel
theorem dX6_start_9 : decode cX6_start 9 = .ok (.invokevirtual 95, 3) := by decide +kernel
theorem dX6_start_12 : decode cX6_start 12 = .ok (.aload_n 0, 1) := by decide +kernel
theorem dX6_start_13 : decode cX6_start 13 = .ok (.aload_n 2, 1) := by decide +kernel
theorem dX6_start_14 : decode cX6_start 14 = .ok (.putfield 26, 3) := by decide +kernel
theorem dX6_start_17 : decode cX6_start 17 = .ok (.aload_n 0, 1) := by decide +kernel
theorem dX6_start_18 : decode cX6_start 18 = .ok (.iconst 0, 1) := by decide +kernel
theorem dX6_start_19 : decode cX6_start 19 = .ok (.putfield 98, 3) := by decide +kernel
theorem dX6_start_22 : decode cX6_start 22 = .ok (.aload_n 0, 1) := by decide +kernel
theorem dX6_start_23 : decode cX6_start 23 = .ok (.iconst 0, 1) := by decide +kernel
theorem dX6_start_24 : decode cX6_start 24 = .ok (.putfield 101, 3) := by decide +kernel
theorem dX6_start_27 : decode cX6_start 27 = .ok (.aload_n 0, 1) := by decide +kernel
theorem dX6_start_28 : decode cX6_start 28 = .ok (.iconst 0, 1) := by decide +kernel
theorem dX6_start_29 : decode cX6_start 29 = .ok (.putfield 34, 3) := by decide +kernel
theorem dX6_start_32 : decode cX6_start 32 = .ok (.aload_n 0, 1) := by decide +kernel
theorem dX6_start_33 : decode cX6_start 33 = .ok (.iconst (-1), 1) := by decide +kernel
theorem dX6_start_34 : decode cX6_start 34 = .ok (.putfield 88, 3) := by decide +kernel
theorem dX6_start_37 : decode cX6_start 37 = .ok (.aload_n 0, 1) := by decide +kernel
theorem dX6_start_38 : decode cX6_start 38 = .ok (.iconst 0, 1) := by decide +kernel
theorem dX6_start_39 : decode cX6_start 39 = .ok (.putfield 82, 3) := by decide +kernel
theorem dX6_start_42 : decode cX6_start 42 = .ok (.aload_n 0, 1) := by decide +kernel
theorem dX6_start_43 : decode cX6_start 43 = .ok (.iconst (-1), 1) := by decide +kernel
theorem dX6_start_44 : decode cX6_start 44 = .ok (.putfield 85, 3) := by decide +kernel
theorem dX6_start_47 : decode cX6_start 47 = .ok (.return_, 1) := by decide +kernel
theorem dX6_readCorner_0 : decode cX6_readCorner 0 = .ok (.aload_n 0, 1) := by decide +kernel
theorem dX6_readCorner_1 : decode cX6_readCorner 1 = .ok (.aload_n 0, 1) := by decide +kernel
theorem dX6_readCorner_2 : decode cX6_readCorner 2 = .ok (.getfield 26, 3) := by decide +kernel
theorem dX6_readCorner_5 : decode cX6_readCorner 5 = .ok (.getfield 104, 3) := by decide +kernel
theorem dX6_readCorner_8 : decode cX6_readCorner 8 = .ok (.bipush 7, 2) := by decide +kernel
theorem dX6_readCorner_10 : decode cX6_readCorner 10 = .ok (.invokevirtual 107, 3) := by decide +kernel
theorem dX6_readCorner_13 : decode cX6_readCorner 13 = .ok (.aload_n 0, 1) := by decide +kernel
theorem dX6_readCorner_14 : decode cX6_readCorner 14 = .ok (.aload_n 0, 1) := by decide +kernel
theorem dX6_readCorner_15 : decode cX6_readCorner 15 = .ok (.getfield 26, 3) := by decide +kernel
theorem dX6_readCorner_18 : decode cX6_readCorner 18 = .ok (.getfield 104, 3) := by decide +kernel
theorem dX6_readCorner_21 : decode cX6_readCorner 21 = .ok (.invokevirtual 111, 3) := by decide +kernel
theorem dX6_readCorner_24 : decode cX6_readCorner 24 = .ok (.aload_n 0, 1) := by decide +kernel
theorem dX6_readCorner_25 : decode cX6_readCorner 25 = .ok (.getfield 34, 3) := by decide +kernel
theorem dX6_readCorner_28 : decode cX6_readCorner 28 = .ok (.ifCond .ne 16, 3) := by decide +kernel
theorem dX6_readCorner_31 : decode cX6_readCorner 31 = .ok (.aload_n 0, 1) := by decide +kernel
theorem dX6_readCorner_32 : decode cX6_readCorner 32 = .ok (.getfield 26, 3) := by decide +kernel
theorem dX6_readCorner_35 : decode cX6_readCorner 35 = .ok (.dup, 1) := by decide +kernel
theorem dX6_readCorner_36 : decode cX6_readCorner 36 = .ok (.getfield 104, 3) := by decide +kernel
theorem dX6_readCorner_39 : decode cX6_readCorner 39 = .ok (.iconst 1, 1) := by decide +kernel
theorem dX6_readCorner_40 : decode cX6_readCorner 40 = .ok (.iadd, 1) := by decide +kernel
theorem dX6_readCorner_41 : decode cX6_readCorner 41 = .ok (.putfield 104, 3) := by decide +kernel
theorem dX6_readCorner_44 : decode cX6_readCorner 44 = .ok (.return_, 1) := by decide +kernel
theorem dX6_readStreet_0 : decode cX6_readStreet 0 = .ok (.aload_n 0, 1) := by decide +kernel
theorem dX6_readStreet_1 : decode cX6_readStreet 1 = .ok (.aload_n 0, 1) := by decide +kernel
theorem dX6_readStreet_2 : decode cX6_readStreet 2 = .ok (.getfield 26, 3) := by decide +kernel
theorem dX6_readStreet_5 : decode cX6_readStreet 5 = .ok (.getfield 114, 3) := by decide +kernel
theorem dX6_readStreet_8 : decode cX6_readStreet 8 = .ok (.bipush 10, 2) := by decide +kernel
theorem dX6_readStreet_10 : decode cX6_readStreet 10 = .ok (.invokevirtual 107, 3) := by decide +kernel
theorem dX6_readStreet_13 : decode cX6_readStreet 13 = .ok (.aload_n 0, 1) := by decide +kernel
theorem dX6_readStreet_14 : decode cX6_readStreet 14 = .ok (.invokevirtual 57, 3) := by decide +kernel
theorem dX6_readStreet_17 : decode cX6_readStreet 17 = .ok (.istore_n 1, 1) := by decide +kernel
theorem dX6_readStreet_18 : decode cX6_readStreet 18 = .ok (.aload_n 0, 1) := by decide +kernel
theorem dX6_readStreet_19 : decode cX6_readStreet 19 = .ok (.getfield 12, 3) := by decide +kernel
theorem dX6_readStreet_22 : decode cX6_readStreet 22 = .ok (.getfield 117, 3) := by decide +kernel
theorem dX6_readStreet_25 : decode cX6_readStreet 25 = .ok (.aload_n 0, 1) := by decide +kernel
theorem dX6_readStreet_26 : decode cX6_readStreet 26 = .ok (.getfield 98, 3) := by decide +kernel
theorem dX6_readStreet_29 : decode cX6_readStreet 29 = .ok (.iaload, 1) := by decide +kernel
theorem dX6_readStreet_30 : decode cX6_readStreet 30 = .ok (.istore_n 2, 1) := by decide +kernel
theorem dX6_readStreet_31 : decode cX6_readStreet 31 = .ok (.aload_n 0, 1) := by decide +kernel
theorem dX6_readStreet_32 : decode cX6_readStreet 32 = .ok (.invokevirtual 57, 3) := by decide +kernel
theorem dX6_readStreet_35 : decode cX6_readStreet 35 = .ok (.istore_n 3, 1) := by decide +kernel
theorem dX6_readStreet_36 : decode cX6_readStreet 36 = .ok (.iload_n 1, 1) := by decide +kernel
theorem dX6_readStreet_37 : decode cX6_readStreet 37 = .ok (.iload_n 3, 1) := by decide +kernel
theorem dX6_readStreet_38 : decode cX6_readStreet 38 = .ok (.if_icmp .ne 14, 3) := by decide +kernel
theorem dX6_readStreet_41 : decode cX6_readStreet 41 = .ok (.iload_n 1, 1) := by decide +kernel
theorem dX6_readStreet_42 : decode cX6_readStreet 42 = .ok (.iconst (-1), 1) := by decide +kernel
theorem dX6_readStreet_43 : decode cX6_readStreet 43 = .ok (.if_icmp .eq 9, 3) := by decide +kernel
theorem dX6_readStreet_46 : decode cX6_readStreet 46 = .ok (.aload_n 0, 1) := by decide +kernel
theorem dX6_readStreet_47 : decode cX6_readStreet 47 = .ok (.iconst 3, 1) := by decide +kernel
theorem dX6_readStreet_48 : decode cX6_readStreet 48 = .ok (.iload_n 2, 1) := by decide +kernel
theorem dX6_readStreet_49 : decode cX6_readStreet 49 = .ok (.invokevirtual 120, 3) := by decide +kernel
theorem dX6_readStreet_52 : decode cX6_readStreet 52 = .ok (.aload_n 0, 1) := by decide +kernel
theorem dX6_readStreet_53 : decode cX6_readStreet 53 = .ok (.iconst 1, 1) := by decide +kernel
theorem dX6_readStreet_54 : decode cX6_readStreet 54 = .ok (.bipush 99, 2) := by decide +kernel
theorem dX6_readStreet_56 : decode cX6_readStreet 56 = .ok (.invokevirtual 65, 3) := by decide +kernel
theorem dX6_readStreet_59 : decode cX6_readStreet 59 = .ok (.istore 4, 2) := by decide +kernel
theorem dX6_readStreet_61 : decode cX6_readStreet 61 = .ok (.aload_n 0, 1) := by decide +kernel
theorem dX6_readStreet_62 : decode cX6_readStreet 62 = .ok (.getfield 34, 3) := by decide +kernel
theorem dX6_readStreet_65 : decode cX6_readStreet 65 = .ok (.ifCond .ne 14, 3) := by decide +kernel
theorem dX6_readStreet_68 : decode cX6_readStreet 68 = .ok (.aload_n 0, 1) := by decide +kernel
theorem dX6_readStreet_69 : decode cX6_readStreet 69 = .ok (.getfield 26, 3) := by decide +kernel
theorem dX6_readStreet_72 : decode cX6_readStreet 72 = .ok (.iload_n 1, 1) := by decide +kernel
theorem dX6_readStreet_73 : decode cX6_readStreet 73 = .ok (.iload_n 3, 1) := by decide +kernel
theorem dX6_readStreet_74 : decode cX6_readStreet 74 = .ok (.iload 4, 2) := by decide +kernel
theorem dX6_readStreet_76 : decode cX6_readStreet 76 = .ok (.invokevirtual 123, 3) := by decide +kernel
theorem dX6_readStreet_79 : decode cX6_readStreet 79 = .ok (.return_, 1) := by decide +kernel
theorem dX6_readYoung_0 : decode cX6_readYoung 0 = .ok (.aload_n 0, 1) := by decide +kernel
theorem dX6_readYoung_1 : decode cX6_readYoung 1 = .ok (.aload_n 0, 1) := by decide +kernel
theorem dX6_readYoung_2 : decode cX6_readYoung 2 = .ok (.getfield 26, 3) := by decide +kernel
theorem dX6_readYoung_5 : decode cX6_readYoung 5 = .ok (.getfield 127, 3) := by decide +kernel
theorem dX6_readYoung_8 : decode cX6_readYoung 8 = .ok (.bipush 6, 2) := by decide +kernel
theorem dX6_readYoung_10 : decode cX6_readYoung 10 = .ok (.invokevirtual 107, 3) := by decide +kernel
theorem dX6_readYoung_13 : decode cX6_readYoung 13 = .ok (.aload_n 0, 1) := by decide +kernel
theorem dX6_readYoung_14 : decode cX6_readYoung 14 = .ok (.iconst (-1), 1) := by decide +kernel
theorem dX6_readYoung_15 : decode cX6_readYoung 15 = .ok (.invokevirtual 111, 3) := by decide +kernel
theorem dX6_readYoung_18 : decode cX6_readYoung 18 = .ok (.aload_n 0, 1) := by decide +kernel
theorem dX6_readYoung_19 : decode cX6_readYoung 19 = .ok (.bipush 10, 2) := by decide +kernel
theorem dX6_readYoung_21 : decode cX6_readYoung 21 = .ok (.bipush 40, 2) := by decide +kernel
theorem dX6_readYoung_23 : decode cX6_readYoung 23 = .ok (.invokevirtual 65, 3) := by decide +kernel
theorem dX6_readYoung_26 : decode cX6_readYoung 26 = .ok (.istore_n 1, 1) := by decide +kernel
theorem dX6_readYoung_27 : decode cX6_readYoung 27 = .ok (.aload_n 0, 1) := by decide +kernel
theorem dX6_readYoung_28 : decode cX6_readYoung 28 = .ok (.iconst 0, 1) := by decide +kernel
theorem dX6_readYoung_29 : decode cX6_readYoung 29 = .ok (.bipush 9, 2) := by decide +kernel
theorem dX6_readYoung_31 : decode cX6_readYoung 31 = .ok (.invokevirtual 65, 3) := by decide +kernel
theorem dX6_readYoung_34 : decode cX6_readYoung 34 = .ok (.istore_n 2, 1) := by decide +kernel
theorem dX6_readYoung_35 : decode cX6_readYoung 35 = .ok (.aload_n 0, 1) := by decide +kernel
theorem dX6_readYoung_36 : decode cX6_readYoung 36 = .ok (.invokevirtual 57, 3) := by decide +kernel
theorem dX6_readYoung_39 : decode cX6_readYoung 39 = .ok (.istore_n 3, 1) := by decide +kernel
theorem dX6_readYoung_40 : decode cX6_readYoung 40 = .ok (.aload_n 0, 1) := by decide +kernel
theorem dX6_readYoung_41 : decode cX6_readYoung 41 = .ok (.getfield 34, 3) := by decide +kernel
theorem dX6_readYoung_44 : decode cX6_readYoung 44 = .ok (.ifCond .ne 13, 3) := by decide +kernel
theorem dX6_readYoung_47 : decode cX6_readYoung 47 = .ok (.aload_n 0, 1) := by decide +kernel
theorem dX6_readYoung_48 : decode cX6_readYoung 48 = .ok (.getfield 26, 3) := by decide +kernel
theorem dX6_readYoung_51 : decode cX6_readYoung 51 = .ok (.iload_n 1, 1) := by decide +kernel
theorem dX6_readYoung_52 : decode cX6_readYoung 52 = .ok (.iload_n 2, 1) := by decide +kernel
theorem dX6_readYoung_53 : decode cX6_readYoung 53 = .ok (.iload_n 3, 1) := by decide +kernel
theorem dX6_readYoung_54 : decode cX6_readYoung 54 = .ok (.invokevirtual 130, 3) := by decide +kernel
theorem dX6_readYoung_57 : decode cX6_readYoung 57 = .ok (.return_, 1) := by decide +kernel
theorem dX6_readWord_0 : decode cX6_readWord 0 = .ok (.aload_n 0, 1) := by decide +kernel
theorem dX6_readWord_1 : decode cX6_readWord 1 = .ok (.aload_n 0, 1) := by decide +kernel
theorem dX6_readWord_2 : decode cX6_readWord 2 = .ok (.getfield 26, 3) := by decide +kernel
theorem dX6_readWord_5 : decode cX6_readWord 5 = .ok (.getfield 133, 3) := by decide +kernel
theorem dX6_readWord_8 : decode cX6_readWord 8 = .ok (.iconst 5, 1) := by decide +kernel
theorem dX6_readWord_9 : decode cX6_readWord 9 = .ok (.invokevirtual 107, 3) := by decide +kernel
theorem dX6_readWord_12 : decode cX6_readWord 12 = .ok (.aload_n 0, 1) := by decide +kernel
theorem dX6_readWord_13 : decode cX6_readWord 13 = .ok (.iconst (-1), 1) := by decide +kernel
theorem dX6_readWord_14 : decode cX6_readWord 14 = .ok (.invokevirtual 111, 3) := by decide +kernel
theorem dX6_readWord_17 : decode cX6_readWord 17 = .ok (.aload_n 0, 1) := by decide +kernel
theorem dX6_readWord_18 : decode cX6_readWord 18 = .ok (.iconst 0, 1) := by decide +kernel
theorem dX6_readWord_19 : decode cX6_readWord 19 = .ok (.bipush 99, 2) := by decide +kernel
theorem dX6_readWord_21 : decode cX6_readWord 21 = .ok (.invokevirtual 65, 3) := by decide +kernel
theorem dX6_readWord_24 : decode cX6_readWord 24 = .ok (.istore_n 1, 1) := by decide +kernel
theorem dX6_readWord_25 : decode cX6_readWord 25 = .ok (.aload_n 0, 1) := by decide +kernel
theorem dX6_readWord_26 : decode cX6_readWord 26 = .ok (.getfield 34, 3) := by decide +kernel
theorem dX6_readWord_29 : decode cX6_readWord 29 = .ok (.ifCond .ne 11, 3) := by decide +kernel
theorem dX6_readWord_32 : decode cX6_readWord 32 = .ok (.aload_n 0, 1) := by decide +kernel
theorem dX6_readWord_33 : decode cX6_readWord 33 = .ok (.getfield 26, 3) := by decide +kernel
theorem dX6_readWord_36 : decode cX6_readWord 36 = .ok (.iload_n 1, 1) := by decide +kernel
theorem dX6_readWord_37 : decode cX6_readWord 37 = .ok (.invokevirtual 136, 3) := by decide +kernel
theorem dX6_readWord_40 : decode cX6_readWord 40 = .ok (.return_, 1) := by decide +kernel
theorem dX6_readLaw_0 : decode cX6_readLaw 0 = .ok (.iload_n 1, 1) := by decide +kernel
theorem dX6_readLaw_1 : decode cX6_readLaw 1 = .ok (.ifCond .lt 8, 3) := by decide +kernel
theorem dX6_readLaw_4 : decode cX6_readLaw 4 = .ok (.iload_n 1, 1) := by decide +kernel
theorem dX6_readLaw_5 : decode cX6_readLaw 5 = .ok (.iconst 4, 1) := by decide +kernel
theorem dX6_readLaw_6 : decode cX6_readLaw 6 = .ok (.if_icmp .lt 9, 3) := by decide +kernel
theorem dX6_readLaw_9 : decode cX6_readLaw 9 = .ok (.aload_n 0, 1) := by decide +kernel
theorem dX6_readLaw_10 : decode cX6_readLaw 10 = .ok (.iconst 1, 1) := by decide +kernel
theorem dX6_readLaw_11 : decode cX6_readLaw 11 = .ok (.invokevirtual 139, 3) := by decide +kernel
theorem dX6_readLaw_14 : decode cX6_readLaw 14 = .ok (.return_, 1) := by decide +kernel
theorem dX6_readLaw_15 : decode cX6_readLaw 15 = .ok (.aload_n 0, 1) := by decide +kernel
theorem dX6_readLaw_16 : decode cX6_readLaw 16 = .ok (.invokevirtual 54, 3) := by decide +kernel
theorem dX6_readLaw_19 : decode cX6_readLaw 19 = .ok (.aload_n 0, 1) := by decide +kernel
theorem dX6_readLaw_20 : decode cX6_readLaw 20 = .ok (.bipush 61, 2) := by decide +kernel
theorem dX6_readLaw_22 : decode cX6_readLaw 22 = .ok (.invokevirtual 79, 3) := by decide +kernel
theorem dX6_readLaw_25 : decode cX6_readLaw 25 = .ok (.aload_n 0, 1) := by decide +kernel
theorem dX6_readLaw_26 : decode cX6_readLaw 26 = .ok (.getfield 26, 3) := by decide +kernel
theorem dX6_readLaw_29 : decode cX6_readLaw 29 = .ok (.getfield 142, 3) := by decide +kernel
theorem dX6_readLaw_32 : decode cX6_readLaw 32 = .ok (.iload_n 1, 1) := by decide +kernel
theorem dX6_readLaw_33 : decode cX6_readLaw 33 = .ok (.aload_n 0, 1) := by decide +kernel
theorem dX6_readLaw_34 : decode cX6_readLaw 34 = .ok (.getfield 26, 3) := by decide +kernel
theorem dX6_readLaw_37 : decode cX6_readLaw 37 = .ok (.getfield 145, 3) := by decide +kernel
theorem dX6_readLaw_40 : decode cX6_readLaw 40 = .ok (.iastore, 1) := by decide +kernel
theorem dX6_readLaw_41 : decode cX6_readLaw 41 = .ok (.iconst 0, 1) := by decide +kernel
theorem dX6_readLaw_42 : decode cX6_readLaw 42 = .ok (.istore_n 2, 1) := by decide +kernel
theorem dX6_readLaw_43 : decode cX6_readLaw 43 = .ok (.iload_n 2, 1) := by decide +kernel
theorem dX6_readLaw_44 : decode cX6_readLaw 44 = .ok (.iconst 4, 1) := by decide +kernel
theorem dX6_readLaw_45 : decode cX6_readLaw 45 = .ok (.if_icmp .gt 112, 3) := by decide +kernel
theorem dX6_readLaw_48 : decode cX6_readLaw 48 = .ok (.aload_n 0, 1) := by decide +kernel
theorem dX6_readLaw_49 : decode cX6_readLaw 49 = .ok (.getfield 34, 3) := by decide +kernel
theorem dX6_readLaw_52 : decode cX6_readLaw 52 = .ok (.ifCond .ne 105, 3) := by decide +kernel
theorem dX6_readLaw_55 : decode cX6_readLaw 55 = .ok (.aload_n 0, 1) := by decide +kernel
theorem dX6_readLaw_56 : decode cX6_readLaw 56 = .ok (.invokevirtual 38, 3) := by decide +kernel
theorem dX6_readLaw_59 : decode cX6_readLaw 59 = .ok (.sipush 139, 3) := by decide +kernel
theorem dX6_readLaw_62 : decode cX6_readLaw 62 = .ok (.if_icmp .ne 95, 3) := by decide +kernel
theorem dX6_readLaw_65 : decode cX6_readLaw 65 = .ok (.iload_n 2, 1) := by decide +kernel
theorem dX6_readLaw_66 : decode cX6_readLaw 66 = .ok (.iconst 4, 1) := by decide +kernel
theorem dX6_readLaw_67 : decode cX6_readLaw 67 = .ok (.if_icmp .ne 8, 3) := by decide +kernel
theorem dX6_readLaw_70 : decode cX6_readLaw 70 = .ok (.aload_n 0, 1) := by decide +kernel
theorem dX6_readLaw_71 : decode cX6_readLaw 71 = .ok (.iconst 2, 1) := by decide +kernel
theorem dX6_readLaw_72 : decode cX6_readLaw 72 = .ok (.invokevirtual 139, 3) := by decide +kernel
theorem dX6_readLaw_75 : decode cX6_readLaw 75 = .ok (.aload_n 0, 1) := by decide +kernel
theorem dX6_readLaw_76 : decode cX6_readLaw 76 = .ok (.invokevirtual 54, 3) := by decide +kernel
theorem dX6_readLaw_79 : decode cX6_readLaw 79 = .ok (.aload_n 0, 1) := by decide +kernel
theorem dX6_readLaw_80 : decode cX6_readLaw 80 = .ok (.iconst 0, 1) := by decide +kernel
theorem dX6_readLaw_81 : decode cX6_readLaw 81 = .ok (.iconst 0, 1) := by decide +kernel
theorem dX6_readLaw_82 : decode cX6_readLaw 82 = .ok (.invokevirtual 148, 3) := by decide +kernel
theorem dX6_readLaw_85 : decode cX6_readLaw 85 = .ok (.aload_n 0, 1) := by decide +kernel
theorem dX6_readLaw_86 : decode cX6_readLaw 86 = .ok (.bipush 60, 2) := by decide +kernel
theorem dX6_readLaw_88 : decode cX6_readLaw 88 = .ok (.invokevirtual 79, 3) := by decide +kernel
theorem dX6_readLaw_91 : decode cX6_readLaw 91 = .ok (.aload_n 0, 1) := by decide +kernel
theorem dX6_readLaw_92 : decode cX6_readLaw 92 = .ok (.iconst 0, 1) := by decide +kernel
theorem dX6_readLaw_93 : decode cX6_readLaw 93 = .ok (.iconst 0, 1) := by decide +kernel
theorem dX6_readLaw_94 : decode cX6_readLaw 94 = .ok (.invokevirtual 148, 3) := by decide +kernel
theorem dX6_readLaw_97 : decode cX6_readLaw 97 = .ok (.aload_n 0, 1) := by decide +kernel
theorem dX6_readLaw_98 : decode cX6_readLaw 98 = .ok (.sipush 140, 3) := by decide +kernel
theorem dX6_readLaw_101 : decode cX6_readLaw 101 = .ok (.invokevirtual 79, 3) := by decide +kernel
theorem dX6_readLaw_104 : decode cX6_readLaw 104 = .ok (.aload_n 0, 1) := by decide +kernel
theorem dX6_readLaw_105 : decode cX6_readLaw 105 = .ok (.getfield 26, 3) := by decide +kernel
theorem dX6_readLaw_108 : decode cX6_readLaw 108 = .ok (.getfield 145, 3) := by decide +kernel
theorem dX6_readLaw_111 : decode cX6_readLaw 111 = .ok (.istore_n 3, 1) := by decide +kernel
theorem dX6_readLaw_112 : decode cX6_readLaw 112 = .ok (.aload_n 0, 1) := by decide +kernel
theorem dX6_readLaw_113 : decode cX6_readLaw 113 = .ok (.getfield 26, 3) := by decide +kernel
theorem dX6_readLaw_116 : decode cX6_readLaw 116 = .ok (.iconst 2, 1) := by decide +kernel
theorem dX6_readLaw_117 : decode cX6_readLaw 117 = .ok (.iconst 0, 1) := by decide +kernel
theorem dX6_readLaw_118 : decode cX6_readLaw 118 = .ok (.invokevirtual 151, 3) := by decide +kernel
theorem dX6_readLaw_121 : decode cX6_readLaw 121 = .ok (.aload_n 0, 1) := by decide +kernel
theorem dX6_readLaw_122 : decode cX6_readLaw 122 = .ok (.iconst 0, 1) := by decide +kernel
theorem dX6_readLaw_123 : decode cX6_readLaw 123 = .ok (.iconst 0, 1) := by decide +kernel
theorem dX6_readLaw_124 : decode cX6_readLaw 124 = .ok (.invokevirtual 148, 3) := by decide +kernel
theorem dX6_readLaw_127 : decode cX6_readLaw 127 = .ok (.aload_n 0, 1) := by decide +kernel
theorem dX6_readLaw_128 : decode cX6_readLaw 128 = .ok (.sipush 141, 3) := by decide +kernel
theorem dX6_readLaw_131 : decode cX6_readLaw 131 = .ok (.invokevirtual 79, 3) := by decide +kernel
theorem dX6_readLaw_134 : decode cX6_readLaw 134 = .ok (.aload_n 0, 1) := by decide +kernel
theorem dX6_readLaw_135 : decode cX6_readLaw 135 = .ok (.getfield 26, 3) := by decide +kernel
theorem dX6_readLaw_138 : decode cX6_readLaw 138 = .ok (.iconst 3, 1) := by decide +kernel
theorem dX6_readLaw_139 : decode cX6_readLaw 139 = .ok (.iconst 0, 1) := by decide +kernel
theorem dX6_readLaw_140 : decode cX6_readLaw 140 = .ok (.invokevirtual 151, 3) := by decide +kernel
theorem dX6_readLaw_143 : decode cX6_readLaw 143 = .ok (.aload_n 0, 1) := by decide +kernel
theorem dX6_readLaw_144 : decode cX6_readLaw 144 = .ok (.getfield 26, 3) := by decide +kernel
theorem dX6_readLaw_147 : decode cX6_readLaw 147 = .ok (.iload_n 3, 1) := by decide +kernel
theorem dX6_readLaw_148 : decode cX6_readLaw 148 = .ok (.invokevirtual 154, 3) := by decide +kernel
theorem dX6_readLaw_151 : decode cX6_readLaw 151 = .ok (.iinc 2 1, 3) := by decide +kernel
theorem dX6_readLaw_154 : decode cX6_readLaw 154 = .ok (.goto (-111), 3) := by decide +kernel
theorem dX6_readLaw_157 : decode cX6_readLaw 157 = .ok (.aload_n 0, 1) := by decide +kernel
theorem dX6_readLaw_158 : decode cX6_readLaw 158 = .ok (.iconst 0, 1) := by decide +kernel
theorem dX6_readLaw_159 : decode cX6_readLaw 159 = .ok (.iconst 0, 1) := by decide +kernel
theorem dX6_readLaw_160 : decode cX6_readLaw 160 = .ok (.invokevirtual 148, 3) := by decide +kernel
theorem dX6_readLaw_163 : decode cX6_readLaw 163 = .ok (.aload_n 0, 1) := by decide +kernel
theorem dX6_readLaw_164 : decode cX6_readLaw 164 = .ok (.getfield 26, 3) := by decide +kernel
theorem dX6_readLaw_167 : decode cX6_readLaw 167 = .ok (.iconst 3, 1) := by decide +kernel
theorem dX6_readLaw_168 : decode cX6_readLaw 168 = .ok (.iconst 0, 1) := by decide +kernel
theorem dX6_readLaw_169 : decode cX6_readLaw 169 = .ok (.invokevirtual 151, 3) := by decide +kernel
theorem dX6_readLaw_172 : decode cX6_readLaw 172 = .ok (.return_, 1) := by decide +kernel
theorem dX6_readValue_0 : decode cX6_readValue 0 = .ok (.iload_n 1, 1) := by decide +kernel
theorem dX6_readValue_1 : decode cX6_readValue 1 = .ok (.iconst 2, 1) := by decide +kernel
theorem dX6_readValue_2 : decode cX6_readValue 2 = .ok (.if_icmp .lt 9, 3) := by decide +kernel
theorem dX6_readValue_5 : decode cX6_readValue 5 = .ok (.aload_n 0, 1) := by decide +kernel
theorem dX6_readValue_6 : decode cX6_readValue 6 = .ok (.iload_n 2, 1) := by decide +kernel
theorem dX6_readValue_7 : decode cX6_readValue 7 = .ok (.invokevirtual 157, 3) := by decide +kernel
theorem dX6_readValue_10 : decode cX6_readValue 10 = .ok (.return_, 1) := by decide +kernel
theorem dX6_readValue_11 : decode cX6_readValue 11 = .ok (.aload_n 0, 1) := by decide +kernel
theorem dX6_readValue_12 : decode cX6_readValue 12 = .ok (.iload_n 1, 1) := by decide +kernel
theorem dX6_readValue_13 : decode cX6_readValue 13 = .ok (.iconst 1, 1) := by decide +kernel
theorem dX6_readValue_14 : decode cX6_readValue 14 = .ok (.iadd, 1) := by decide +kernel
theorem dX6_readValue_15 : decode cX6_readValue 15 = .ok (.iload_n 2, 1) := by decide +kernel
theorem dX6_readValue_16 : decode cX6_readValue 16 = .ok (.invokevirtual 148, 3) := by decide +kernel
theorem dX6_readValue_19 : decode cX6_readValue 19 = .ok (.iconst 0, 1) := by decide +kernel
theorem dX6_readValue_20 : decode cX6_readValue 20 = .ok (.istore_n 3, 1) := by decide +kernel
theorem dX6_readValue_21 : decode cX6_readValue 21 = .ok (.iload_n 3, 1) := by decide +kernel
theorem dX6_readValue_22 : decode cX6_readValue 22 = .ok (.sipush 401, 3) := by decide +kernel
theorem dX6_readValue_25 : decode cX6_readValue 25 = .ok (.if_icmp .ge 55, 3) := by decide +kernel
theorem dX6_readValue_28 : decode cX6_readValue 28 = .ok (.aload_n 0, 1) := by decide +kernel
theorem dX6_readValue_29 : decode cX6_readValue 29 = .ok (.getfield 34, 3) := by decide +kernel
theorem dX6_readValue_32 : decode cX6_readValue 32 = .ok (.ifCond .ne 48, 3) := by decide +kernel
theorem dX6_readValue_35 : decode cX6_readValue 35 = .ok (.aload_n 0, 1) := by decide +kernel
theorem dX6_readValue_36 : decode cX6_readValue 36 = .ok (.invokevirtual 38, 3) := by decide +kernel
theorem dX6_readValue_39 : decode cX6_readValue 39 = .ok (.invokestatic 160, 3) := by decide +kernel
theorem dX6_readValue_42 : decode cX6_readValue 42 = .ok (.iload_n 1, 1) := by decide +kernel
theorem dX6_readValue_43 : decode cX6_readValue 43 = .ok (.if_icmp .ne 37, 3) := by decide +kernel
theorem dX6_readValue_46 : decode cX6_readValue 46 = .ok (.aload_n 0, 1) := by decide +kernel
theorem dX6_readValue_47 : decode cX6_readValue 47 = .ok (.invokevirtual 38, 3) := by decide +kernel
theorem dX6_readValue_50 : decode cX6_readValue 50 = .ok (.istore 4, 2) := by decide +kernel
theorem dX6_readValue_52 : decode cX6_readValue 52 = .ok (.aload_n 0, 1) := by decide +kernel
theorem dX6_readValue_53 : decode cX6_readValue 53 = .ok (.invokevirtual 54, 3) := by decide +kernel
theorem dX6_readValue_56 : decode cX6_readValue 56 = .ok (.aload_n 0, 1) := by decide +kernel
theorem dX6_readValue_57 : decode cX6_readValue 57 = .ok (.iload_n 1, 1) := by decide +kernel
theorem dX6_readValue_58 : decode cX6_readValue 58 = .ok (.iconst 1, 1) := by decide +kernel
theorem dX6_readValue_59 : decode cX6_readValue 59 = .ok (.iadd, 1) := by decide +kernel
theorem dX6_readValue_60 : decode cX6_readValue 60 = .ok (.iload_n 2, 1) := by decide +kernel
theorem dX6_readValue_61 : decode cX6_readValue 61 = .ok (.invokevirtual 148, 3) := by decide +kernel
theorem dX6_readValue_64 : decode cX6_readValue 64 = .ok (.aload_n 0, 1) := by decide +kernel
theorem dX6_readValue_65 : decode cX6_readValue 65 = .ok (.getfield 26, 3) := by decide +kernel
theorem dX6_readValue_68 : decode cX6_readValue 68 = .ok (.iload 4, 2) := by decide +kernel
theorem dX6_readValue_70 : decode cX6_readValue 70 = .ok (.iconst 0, 1) := by decide +kernel
theorem dX6_readValue_71 : decode cX6_readValue 71 = .ok (.invokevirtual 151, 3) := by decide +kernel
theorem dX6_readValue_74 : decode cX6_readValue 74 = .ok (.iinc 3 1, 3) := by decide +kernel
theorem dX6_readValue_77 : decode cX6_readValue 77 = .ok (.goto (-56), 3) := by decide +kernel
theorem dX6_readValue_80 : decode cX6_readValue 80 = .ok (.return_, 1) := by decide +kernel
theorem dX6_readUnit_0 : decode cX6_readUnit 0 = .ok (.aload_n 0, 1) := by decide +kernel
theorem dX6_readUnit_1 : decode cX6_readUnit 1 = .ok (.invokevirtual 38, 3) := by decide +kernel
theorem dX6_readUnit_4 : decode cX6_readUnit 4 = .ok (.istore_n 2, 1) := by decide +kernel
theorem dX6_readUnit_5 : decode cX6_readUnit 5 = .ok (.iload_n 2, 1) := by decide +kernel
theorem dX6_readUnit_6 : decode cX6_readUnit 6 = .ok (.iconst 3, 1) := by decide +kernel
theorem dX6_readUnit_7 : decode cX6_readUnit 7 = .ok (.if_icmp .ne 31, 3) := by decide +kernel
theorem dX6_readUnit_10 : decode cX6_readUnit 10 = .ok (.aload_n 0, 1) := by decide +kernel
theorem dX6_readUnit_11 : decode cX6_readUnit 11 = .ok (.getfield 26, 3) := by decide +kernel
theorem dX6_readUnit_14 : decode cX6_readUnit 14 = .ok (.iconst 0, 1) := by decide +kernel
theorem dX6_readUnit_15 : decode cX6_readUnit 15 = .ok (.aload_n 0, 1) := by decide +kernel
theorem dX6_readUnit_16 : decode cX6_readUnit 16 = .ok (.getfield 12, 3) := by decide +kernel
theorem dX6_readUnit_19 : decode cX6_readUnit 19 = .ok (.getfield 164, 3) := by decide +kernel
theorem dX6_readUnit_22 : decode cX6_readUnit 22 = .ok (.aload_n 0, 1) := by decide +kernel
theorem dX6_readUnit_23 : decode cX6_readUnit 23 = .ok (.getfield 98, 3) := by decide +kernel
theorem dX6_readUnit_26 : decode cX6_readUnit 26 = .ok (.laload, 1) := by decide +kernel
theorem dX6_readUnit_27 : decode cX6_readUnit 27 = .ok (.l2i, 1) := by decide +kernel
theorem dX6_readUnit_28 : decode cX6_readUnit 28 = .ok (.invokevirtual 151, 3) := by decide +kernel
theorem dX6_readUnit_31 : decode cX6_readUnit 31 = .ok (.aload_n 0, 1) := by decide +kernel
theorem dX6_readUnit_32 : decode cX6_readUnit 32 = .ok (.invokevirtual 54, 3) := by decide +kernel
theorem dX6_readUnit_35 : decode cX6_readUnit 35 = .ok (.goto 90, 3) := by decide +kernel
theorem dX6_readUnit_38 : decode cX6_readUnit 38 = .ok (.iload_n 2, 1) := by decide +kernel
theorem dX6_readUnit_39 : decode cX6_readUnit 39 = .ok (.sipush 142, 3) := by decide +kernel
theorem dX6_readUnit_42 : decode cX6_readUnit 42 = .ok (.if_icmp .lt 30, 3) := by decide +kernel
theorem dX6_readUnit_45 : decode cX6_readUnit 45 = .ok (.iload_n 2, 1) := by decide +kernel
theorem dX6_readUnit_46 : decode cX6_readUnit 46 = .ok (.sipush 150, 3) := by decide +kernel
theorem dX6_readUnit_49 : decode cX6_readUnit 49 = .ok (.if_icmp .gt 23, 3) := by decide +kernel
theorem dX6_readUnit_52 : decode cX6_readUnit 52 = .ok (.aload_n 0, 1) := by decide +kernel
theorem dX6_readUnit_53 : decode cX6_readUnit 53 = .ok (.getfield 26, 3) := by decide +kernel
theorem dX6_readUnit_56 : decode cX6_readUnit 56 = .ok (.iconst 1, 1) := by decide +kernel
theorem dX6_readUnit_57 : decode cX6_readUnit 57 = .ok (.iload_n 2, 1) := by decide +kernel
theorem dX6_readUnit_58 : decode cX6_readUnit 58 = .ok (.sipush 142, 3) := by decide +kernel
theorem dX6_readUnit_61 : decode cX6_readUnit 61 = .ok (.isub, 1) := by decide +kernel
theorem dX6_readUnit_62 : decode cX6_readUnit 62 = .ok (.invokevirtual 151, 3) := by decide +kernel
theorem dX6_readUnit_65 : decode cX6_readUnit 65 = .ok (.aload_n 0, 1) := by decide +kernel
theorem dX6_readUnit_66 : decode cX6_readUnit 66 = .ok (.invokevirtual 54, 3) := by decide +kernel
theorem dX6_readUnit_69 : decode cX6_readUnit 69 = .ok (.goto 56, 3) := by decide +kernel
theorem dX6_readUnit_72 : decode cX6_readUnit 72 = .ok (.iload_n 2, 1) := by decide +kernel
theorem dX6_readUnit_73 : decode cX6_readUnit 73 = .ok (.bipush 40, 2) := by decide +kernel
theorem dX6_readUnit_75 : decode cX6_readUnit 75 = .ok (.if_icmp .eq 11, 3) := by decide +kernel
theorem dX6_readUnit_78 : decode cX6_readUnit 78 = .ok (.aload_n 0, 1) := by decide +kernel
theorem dX6_readUnit_79 : decode cX6_readUnit 79 = .ok (.iconst 1, 1) := by decide +kernel
theorem dX6_readUnit_80 : decode cX6_readUnit 80 = .ok (.invokevirtual 139, 3) := by decide +kernel
theorem dX6_readUnit_83 : decode cX6_readUnit 83 = .ok (.goto 42, 3) := by decide +kernel
theorem dX6_readUnit_86 : decode cX6_readUnit 86 = .ok (.iload_n 1, 1) := by decide +kernel
theorem dX6_readUnit_87 : decode cX6_readUnit 87 = .ok (.bipush 6, 2) := by decide +kernel
theorem dX6_readUnit_89 : decode cX6_readUnit 89 = .ok (.if_icmp .lt 11, 3) := by decide +kernel
theorem dX6_readUnit_92 : decode cX6_readUnit 92 = .ok (.aload_n 0, 1) := by decide +kernel
theorem dX6_readUnit_93 : decode cX6_readUnit 93 = .ok (.iconst 2, 1) := by decide +kernel
theorem dX6_readUnit_94 : decode cX6_readUnit 94 = .ok (.invokevirtual 139, 3) := by decide +kernel
theorem dX6_readUnit_97 : decode cX6_readUnit 97 = .ok (.goto 28, 3) := by decide +kernel
theorem dX6_readUnit_100 : decode cX6_readUnit 100 = .ok (.aload_n 0, 1) := by decide +kernel
theorem dX6_readUnit_101 : decode cX6_readUnit 101 = .ok (.getfield 34, 3) := by decide +kernel
theorem dX6_readUnit_104 : decode cX6_readUnit 104 = .ok (.ifCond .ne 21, 3) := by decide +kernel
theorem dX6_readUnit_107 : decode cX6_readUnit 107 = .ok (.aload_n 0, 1) := by decide +kernel
theorem dX6_readUnit_108 : decode cX6_readUnit 108 = .ok (.invokevirtual 54, 3) := by decide +kernel
theorem dX6_readUnit_111 : decode cX6_readUnit 111 = .ok (.aload_n 0, 1) := by decide +kernel
theorem dX6_readUnit_112 : decode cX6_readUnit 112 = .ok (.iconst 0, 1) := by decide +kernel
theorem dX6_readUnit_113 : decode cX6_readUnit 113 = .ok (.iload_n 1, 1) := by decide +kernel
theorem dX6_readUnit_114 : decode cX6_readUnit 114 = .ok (.iconst 1, 1) := by decide +kernel
theorem dX6_readUnit_115 : decode cX6_readUnit 115 = .ok (.iadd, 1) := by decide +kernel
theorem dX6_readUnit_116 : decode cX6_readUnit 116 = .ok (.invokevirtual 148, 3) := by decide +kernel
theorem dX6_readUnit_119 : decode cX6_readUnit 119 = .ok (.aload_n 0, 1) := by decide +kernel
theorem dX6_readUnit_120 : decode cX6_readUnit 120 = .ok (.bipush 41, 2) := by decide +kernel
theorem dX6_readUnit_122 : decode cX6_readUnit 122 = .ok (.invokevirtual 79, 3) := by decide +kernel
theorem dX6_readUnit_125 : decode cX6_readUnit 125 = .ok (.return_, 1) := by decide +kernel
theorem dX6_levelOf_0 : decode cX6_levelOf 0 = .ok (.iload_n 0, 1) := by decide +kernel
theorem dX6_levelOf_1 : decode cX6_levelOf 1 = .ok (.bipush 43, 2) := by decide +kernel
theorem dX6_levelOf_3 : decode cX6_levelOf 3 = .ok (.if_icmp .eq 9, 3) := by decide +kernel
theorem dX6_levelOf_6 : decode cX6_levelOf 6 = .ok (.iload_n 0, 1) := by decide +kernel
theorem dX6_levelOf_7 : decode cX6_levelOf 7 = .ok (.bipush 45, 2) := by decide +kernel
theorem dX6_levelOf_9 : decode cX6_levelOf 9 = .ok (.if_icmp .ne 5, 3) := by decide +kernel
theorem dX6_levelOf_12 : decode cX6_levelOf 12 = .ok (.iconst 0, 1) := by decide +kernel
theorem dX6_levelOf_13 : decode cX6_levelOf 13 = .ok (.ireturn, 1) := by decide +kernel
theorem dX6_levelOf_14 : decode cX6_levelOf 14 = .ok (.iload_n 0, 1) := by decide +kernel
theorem dX6_levelOf_15 : decode cX6_levelOf 15 = .ok (.bipush 42, 2) := by decide +kernel
theorem dX6_levelOf_17 : decode cX6_levelOf 17 = .ok (.if_icmp .eq 9, 3) := by decide +kernel
theorem dX6_levelOf_20 : decode cX6_levelOf 20 = .ok (.iload_n 0, 1) := by decide +kernel
theorem dX6_levelOf_21 : decode cX6_levelOf 21 = .ok (.bipush 47, 2) := by decide +kernel
theorem dX6_levelOf_23 : decode cX6_levelOf 23 = .ok (.if_icmp .ne 7, 3) := by decide +kernel
theorem dX6_levelOf_26 : decode cX6_levelOf 26 = .ok (.iconst 1, 1) := by decide +kernel
theorem dX6_levelOf_27 : decode cX6_levelOf 27 = .ok (.goto 4, 3) := by decide +kernel
theorem dX6_levelOf_30 : decode cX6_levelOf 30 = .ok (.iconst (-1), 1) := by decide +kernel
theorem dX6_levelOf_31 : decode cX6_levelOf 31 = .ok (.ireturn, 1) := by decide +kernel
theorem dX6_kind_0 : decode cX6_kind 0 = .ok (.aload_n 0, 1) := by decide +kernel
theorem dX6_kind_1 : decode cX6_kind 1 = .ok (.getfield 12, 3) := by decide +kernel
theorem dX6_kind_4 : decode cX6_kind 4 = .ok (.getfield 167, 3) := by decide +kernel
theorem dX6_kind_7 : decode cX6_kind 7 = .ok (.aload_n 0, 1) := by decide +kernel
theorem dX6_kind_8 : decode cX6_kind 8 = .ok (.getfield 98, 3) := by decide +kernel
theorem dX6_kind_11 : decode cX6_kind 11 = .ok (.iaload, 1) := by decide +kernel
theorem dX6_kind_12 : decode cX6_kind 12 = .ok (.ireturn, 1) := by decide +kernel
theorem dX6_passOneOf_0 : decode cX6_passOneOf 0 = .ok (.iload_n 1, 1) := by decide +kernel
theorem dX6_passOneOf_1 : decode cX6_passOneOf 1 = .ok (.iload_n 2, 1) := by decide +kernel
theorem dX6_passOneOf_2 : decode cX6_passOneOf 2 = .ok (.if_icmp .lt 8, 3) := by decide +kernel
theorem dX6_passOneOf_5 : decode cX6_passOneOf 5 = .ok (.aload_n 0, 1) := by decide +kernel
theorem dX6_passOneOf_6 : decode cX6_passOneOf 6 = .ok (.iconst 2, 1) := by decide +kernel
theorem dX6_passOneOf_7 : decode cX6_passOneOf 7 = .ok (.invokevirtual 139, 3) := by decide +kernel
theorem dX6_passOneOf_10 : decode cX6_passOneOf 10 = .ok (.aload_n 0, 1) := by decide +kernel
theorem dX6_passOneOf_11 : decode cX6_passOneOf 11 = .ok (.invokevirtual 54, 3) := by decide +kernel
theorem dX6_passOneOf_14 : decode cX6_passOneOf 14 = .ok (.return_, 1) := by decide +kernel
theorem dX6_takeNewName_0 : decode cX6_takeNewName 0 = .ok (.aload_n 0, 1) := by decide +kernel
theorem dX6_takeNewName_1 : decode cX6_takeNewName 1 = .ok (.getfield 12, 3) := by decide +kernel
theorem dX6_takeNewName_4 : decode cX6_takeNewName 4 = .ok (.getfield 164, 3) := by decide +kernel
theorem dX6_takeNewName_7 : decode cX6_takeNewName 7 = .ok (.aload_n 0, 1) := by decide +kernel
theorem dX6_takeNewName_8 : decode cX6_takeNewName 8 = .ok (.getfield 98, 3) := by decide +kernel
theorem dX6_takeNewName_11 : decode cX6_takeNewName 11 = .ok (.laload, 1) := by decide +kernel
theorem dX6_takeNewName_12 : decode cX6_takeNewName 12 = .ok (.lstore_n 2, 1) := by decide +kernel
theorem dX6_takeNewName_13 : decode cX6_takeNewName 13 = .ok (.aload_n 0, 1) := by decide +kernel
theorem dX6_takeNewName_14 : decode cX6_takeNewName 14 = .ok (.getfield 12, 3) := by decide +kernel
theorem dX6_takeNewName_17 : decode cX6_takeNewName 17 = .ok (.getfield 117, 3) := by decide +kernel
theorem dX6_takeNewName_20 : decode cX6_takeNewName 20 = .ok (.aload_n 0, 1) := by decide +kernel
theorem dX6_takeNewName_21 : decode cX6_takeNewName 21 = .ok (.getfield 98, 3) := by decide +kernel
theorem dX6_takeNewName_24 : decode cX6_takeNewName 24 = .ok (.iaload, 1) := by decide +kernel
theorem dX6_takeNewName_25 : decode cX6_takeNewName 25 = .ok (.istore 4, 2) := by decide +kernel
theorem dX6_takeNewName_27 : decode cX6_takeNewName 27 = .ok (.aload_n 0, 1) := by decide +kernel
theorem dX6_takeNewName_28 : decode cX6_takeNewName 28 = .ok (.iconst 2, 1) := by decide +kernel
theorem dX6_takeNewName_29 : decode cX6_takeNewName 29 = .ok (.invokevirtual 79, 3) := by decide +kernel
theorem dX6_takeNewName_32 : decode cX6_takeNewName 32 = .ok (.aload_n 0, 1) := by decide +kernel
theorem dX6_takeNewName_33 : decode cX6_takeNewName 33 = .ok (.getfield 34, 3) := by decide +kernel
theorem dX6_takeNewName_36 : decode cX6_takeNewName 36 = .ok (.ifCond .eq 4, 3) := by decide +kernel
theorem dX6_takeNewName_39 : decode cX6_takeNewName 39 = .ok (.return_, 1) := by decide +kernel
theorem dX6_takeNewName_40 : decode cX6_takeNewName 40 = .ok (.aload_n 0, 1) := by decide +kernel
theorem dX6_takeNewName_41 : decode cX6_takeNewName 41 = .ok (.lload_n 2, 1) := by decide +kernel
theorem dX6_takeNewName_42 : decode cX6_takeNewName 42 = .ok (.invokevirtual 170, 3) := by decide +kernel
theorem dX6_takeNewName_45 : decode cX6_takeNewName 45 = .ok (.iconst (-1), 1) := by decide +kernel
theorem dX6_takeNewName_46 : decode cX6_takeNewName 46 = .ok (.if_icmp .eq 10, 3) := by decide +kernel
theorem dX6_takeNewName_49 : decode cX6_takeNewName 49 = .ok (.aload_n 0, 1) := by decide +kernel
theorem dX6_takeNewName_50 : decode cX6_takeNewName 50 = .ok (.iconst 3, 1) := by decide +kernel
theorem dX6_takeNewName_51 : decode cX6_takeNewName 51 = .ok (.iload 4, 2) := by decide +kernel
theorem dX6_takeNewName_53 : decode cX6_takeNewName 53 = .ok (.invokevirtual 120, 3) := by decide +kernel
theorem dX6_takeNewName_56 : decode cX6_takeNewName 56 = .ok (.aload_n 0, 1) := by decide +kernel
theorem dX6_takeNewName_57 : decode cX6_takeNewName 57 = .ok (.getfield 101, 3) := by decide +kernel
theorem dX6_takeNewName_60 : decode cX6_takeNewName 60 = .ok (.aload_n 0, 1) := by decide +kernel
theorem dX6_takeNewName_61 : decode cX6_takeNewName 61 = .ok (.getfield 18, 3) := by decide +kernel
theorem dX6_takeNewName_64 : decode cX6_takeNewName 64 = .ok (.arraylength, 1) := by decide +kernel
theorem dX6_takeNewName_65 : decode cX6_takeNewName 65 = .ok (.if_icmp .ge 33, 3) := by decide +kernel
theorem dX6_takeNewName_68 : decode cX6_takeNewName 68 = .ok (.aload_n 0, 1) := by decide +kernel
theorem dX6_takeNewName_69 : decode cX6_takeNewName 69 = .ok (.getfield 18, 3) := by decide +kernel
theorem dX6_takeNewName_72 : decode cX6_takeNewName 72 = .ok (.aload_n 0, 1) := by decide +kernel
theorem dX6_takeNewName_73 : decode cX6_takeNewName 73 = .ok (.getfield 101, 3) := by decide +kernel
theorem dX6_takeNewName_76 : decode cX6_takeNewName 76 = .ok (.lload_n 2, 1) := by decide +kernel
theorem dX6_takeNewName_77 : decode cX6_takeNewName 77 = .ok (.lastore, 1) := by decide +kernel
theorem dX6_takeNewName_78 : decode cX6_takeNewName 78 = .ok (.aload_n 0, 1) := by decide +kernel
theorem dX6_takeNewName_79 : decode cX6_takeNewName 79 = .ok (.getfield 22, 3) := by decide +kernel
theorem dX6_takeNewName_82 : decode cX6_takeNewName 82 = .ok (.aload_n 0, 1) := by decide +kernel
theorem dX6_takeNewName_83 : decode cX6_takeNewName 83 = .ok (.getfield 101, 3) := by decide +kernel
theorem dX6_takeNewName_86 : decode cX6_takeNewName 86 = .ok (.iload_n 1, 1) := by decide +kernel
theorem dX6_takeNewName_87 : decode cX6_takeNewName 87 = .ok (.iastore, 1) := by decide +kernel
theorem dX6_takeNewName_88 : decode cX6_takeNewName 88 = .ok (.aload_n 0, 1) := by decide +kernel
theorem dX6_takeNewName_89 : decode cX6_takeNewName 89 = .ok (.dup, 1) := by decide +kernel
theorem dX6_takeNewName_90 : decode cX6_takeNewName 90 = .ok (.getfield 101, 3) := by decide +kernel
theorem dX6_takeNewName_93 : decode cX6_takeNewName 93 = .ok (.iconst 1, 1) := by decide +kernel
theorem dX6_takeNewName_94 : decode cX6_takeNewName 94 = .ok (.iadd, 1) := by decide +kernel
theorem dX6_takeNewName_95 : decode cX6_takeNewName 95 = .ok (.putfield 101, 3) := by decide +kernel
theorem dX6_takeNewName_98 : decode cX6_takeNewName 98 = .ok (.return_, 1) := by decide +kernel
theorem dX6_takeCorner_0 : decode cX6_takeCorner 0 = .ok (.aload_n 0, 1) := by decide +kernel
theorem dX6_takeCorner_1 : decode cX6_takeCorner 1 = .ok (.aload_n 0, 1) := by decide +kernel
theorem dX6_takeCorner_2 : decode cX6_takeCorner 2 = .ok (.getfield 12, 3) := by decide +kernel
theorem dX6_takeCorner_5 : decode cX6_takeCorner 5 = .ok (.getfield 164, 3) := by decide +kernel
theorem dX6_takeCorner_8 : decode cX6_takeCorner 8 = .ok (.aload_n 0, 1) := by decide +kernel
theorem dX6_takeCorner_9 : decode cX6_takeCorner 9 = .ok (.getfield 98, 3) := by decide +kernel
theorem dX6_takeCorner_12 : decode cX6_takeCorner 12 = .ok (.laload, 1) := by decide +kernel
theorem dX6_takeCorner_13 : decode cX6_takeCorner 13 = .ok (.invokevirtual 170, 3) := by decide +kernel
theorem dX6_takeCorner_16 : decode cX6_takeCorner 16 = .ok (.istore_n 1, 1) := by decide +kernel
theorem dX6_takeCorner_17 : decode cX6_takeCorner 17 = .ok (.iload_n 1, 1) := by decide +kernel
theorem dX6_takeCorner_18 : decode cX6_takeCorner 18 = .ok (.iconst (-1), 1) := by decide +kernel
theorem dX6_takeCorner_19 : decode cX6_takeCorner 19 = .ok (.if_icmp .ne 7, 3) := by decide +kernel
theorem dX6_takeCorner_22 : decode cX6_takeCorner 22 = .ok (.iconst (-1), 1) := by decide +kernel
theorem dX6_takeCorner_23 : decode cX6_takeCorner 23 = .ok (.goto 9, 3) := by decide +kernel
theorem dX6_takeCorner_26 : decode cX6_takeCorner 26 = .ok (.aload_n 0, 1) := by decide +kernel
theorem dX6_takeCorner_27 : decode cX6_takeCorner 27 = .ok (.getfield 22, 3) := by decide +kernel
theorem dX6_takeCorner_30 : decode cX6_takeCorner 30 = .ok (.iload_n 1, 1) := by decide +kernel
theorem dX6_takeCorner_31 : decode cX6_takeCorner 31 = .ok (.iaload, 1) := by decide +kernel
theorem dX6_takeCorner_32 : decode cX6_takeCorner 32 = .ok (.istore_n 2, 1) := by decide +kernel
theorem dX6_takeCorner_33 : decode cX6_takeCorner 33 = .ok (.aload_n 0, 1) := by decide +kernel
theorem dX6_takeCorner_34 : decode cX6_takeCorner 34 = .ok (.getfield 12, 3) := by decide +kernel
theorem dX6_takeCorner_37 : decode cX6_takeCorner 37 = .ok (.getfield 117, 3) := by decide +kernel
theorem dX6_takeCorner_40 : decode cX6_takeCorner 40 = .ok (.aload_n 0, 1) := by decide +kernel
theorem dX6_takeCorner_41 : decode cX6_takeCorner 41 = .ok (.getfield 98, 3) := by decide +kernel
theorem dX6_takeCorner_44 : decode cX6_takeCorner 44 = .ok (.iaload, 1) := by decide +kernel
theorem dX6_takeCorner_45 : decode cX6_takeCorner 45 = .ok (.istore_n 3, 1) := by decide +kernel
theorem dX6_takeCorner_46 : decode cX6_takeCorner 46 = .ok (.aload_n 0, 1) := by decide +kernel
theorem dX6_takeCorner_47 : decode cX6_takeCorner 47 = .ok (.iconst 2, 1) := by decide +kernel
theorem dX6_takeCorner_48 : decode cX6_takeCorner 48 = .ok (.invokevirtual 79, 3) := by decide +kernel
theorem dX6_takeCorner_51 : decode cX6_takeCorner 51 = .ok (.iload_n 2, 1) := by decide +kernel
theorem dX6_takeCorner_52 : decode cX6_takeCorner 52 = .ok (.iconst (-1), 1) := by decide +kernel
theorem dX6_takeCorner_53 : decode cX6_takeCorner 53 = .ok (.if_icmp .ne 9, 3) := by decide +kernel
theorem dX6_takeCorner_56 : decode cX6_takeCorner 56 = .ok (.aload_n 0, 1) := by decide +kernel
theorem dX6_takeCorner_57 : decode cX6_takeCorner 57 = .ok (.iconst 4, 1) := by decide +kernel
theorem dX6_takeCorner_58 : decode cX6_takeCorner 58 = .ok (.iload_n 3, 1) := by decide +kernel
theorem dX6_takeCorner_59 : decode cX6_takeCorner 59 = .ok (.invokevirtual 120, 3) := by decide +kernel
theorem dX6_takeCorner_62 : decode cX6_takeCorner 62 = .ok (.iload_n 2, 1) := by decide +kernel
theorem dX6_takeCorner_63 : decode cX6_takeCorner 63 = .ok (.ireturn, 1) := by decide +kernel
theorem dX6_takeInt_0 : decode cX6_takeInt 0 = .ok (.aload_n 0, 1) := by decide +kernel
theorem dX6_takeInt_1 : decode cX6_takeInt 1 = .ok (.getfield 12, 3) := by decide +kernel
theorem dX6_takeInt_4 : decode cX6_takeInt 4 = .ok (.getfield 164, 3) := by decide +kernel
theorem dX6_takeInt_7 : decode cX6_takeInt 7 = .ok (.aload_n 0, 1) := by decide +kernel
theorem dX6_takeInt_8 : decode cX6_takeInt 8 = .ok (.getfield 98, 3) := by decide +kernel
theorem dX6_takeInt_11 : decode cX6_takeInt 11 = .ok (.laload, 1) := by decide +kernel
theorem dX6_takeInt_12 : decode cX6_takeInt 12 = .ok (.l2i, 1) := by decide +kernel
theorem dX6_takeInt_13 : decode cX6_takeInt 13 = .ok (.istore_n 3, 1) := by decide +kernel
theorem dX6_takeInt_14 : decode cX6_takeInt 14 = .ok (.aload_n 0, 1) := by decide +kernel
theorem dX6_takeInt_15 : decode cX6_takeInt 15 = .ok (.getfield 12, 3) := by decide +kernel
theorem dX6_takeInt_18 : decode cX6_takeInt 18 = .ok (.getfield 117, 3) := by decide +kernel
theorem dX6_takeInt_21 : decode cX6_takeInt 21 = .ok (.aload_n 0, 1) := by decide +kernel
theorem dX6_takeInt_22 : decode cX6_takeInt 22 = .ok (.getfield 98, 3) := by decide +kernel
theorem dX6_takeInt_25 : decode cX6_takeInt 25 = .ok (.iaload, 1) := by decide +kernel
theorem dX6_takeInt_26 : decode cX6_takeInt 26 = .ok (.istore 4, 2) := by decide +kernel
theorem dX6_takeInt_28 : decode cX6_takeInt 28 = .ok (.aload_n 0, 1) := by decide +kernel
theorem dX6_takeInt_29 : decode cX6_takeInt 29 = .ok (.iconst 3, 1) := by decide +kernel
theorem dX6_takeInt_30 : decode cX6_takeInt 30 = .ok (.invokevirtual 79, 3) := by decide +kernel
theorem dX6_takeInt_33 : decode cX6_takeInt 33 = .ok (.iload_n 3, 1) := by decide +kernel
theorem dX6_takeInt_34 : decode cX6_takeInt 34 = .ok (.iload_n 1, 1) := by decide +kernel
theorem dX6_takeInt_35 : decode cX6_takeInt 35 = .ok (.if_icmp .lt 8, 3) := by decide +kernel
theorem dX6_takeInt_38 : decode cX6_takeInt 38 = .ok (.iload_n 3, 1) := by decide +kernel
theorem dX6_takeInt_39 : decode cX6_takeInt 39 = .ok (.iload_n 2, 1) := by decide +kernel
theorem dX6_takeInt_40 : decode cX6_takeInt 40 = .ok (.if_icmp .le 10, 3) := by decide +kernel
theorem dX6_takeInt_43 : decode cX6_takeInt 43 = .ok (.aload_n 0, 1) := by decide +kernel
theorem dX6_takeInt_44 : decode cX6_takeInt 44 = .ok (.iconst 5, 1) := by decide +kernel
theorem dX6_takeInt_45 : decode cX6_takeInt 45 = .ok (.iload 4, 2) := by decide +kernel
theorem dX6_takeInt_47 : decode cX6_takeInt 47 = .ok (.invokevirtual 120, 3) := by decide +kernel
theorem dX6_takeInt_50 : decode cX6_takeInt 50 = .ok (.iload_n 3, 1) := by decide +kernel
theorem dX6_takeInt_51 : decode cX6_takeInt 51 = .ok (.ireturn, 1) := by decide +kernel
theorem dX6_find_0 : decode cX6_find 0 = .ok (.iconst 0, 1) := by decide +kernel
theorem dX6_find_1 : decode cX6_find 1 = .ok (.istore_n 3, 1) := by decide +kernel
theorem dX6_find_2 : decode cX6_find 2 = .ok (.iload_n 3, 1) := by decide +kernel
theorem dX6_find_3 : decode cX6_find 3 = .ok (.aload_n 0, 1) := by decide +kernel
theorem dX6_find_4 : decode cX6_find 4 = .ok (.getfield 101, 3) := by decide +kernel
theorem dX6_find_7 : decode cX6_find 7 = .ok (.if_icmp .ge 22, 3) := by decide +kernel
theorem dX6_find_10 : decode cX6_find 10 = .ok (.aload_n 0, 1) := by decide +kernel
theorem dX6_find_11 : decode cX6_find 11 = .ok (.getfield 18, 3) := by decide +kernel
theorem dX6_find_14 : decode cX6_find 14 = .ok (.iload_n 3, 1) := by decide +kernel
theorem dX6_find_15 : decode cX6_find 15 = .ok (.laload, 1) := by decide +kernel
theorem dX6_find_16 : decode cX6_find 16 = .ok (.lload_n 1, 1) := by decide +kernel
theorem dX6_find_17 : decode cX6_find 17 = .ok (.lcmp, 1) := by decide +kernel
theorem dX6_find_18 : decode cX6_find 18 = .ok (.ifCond .ne 5, 3) := by decide +kernel
theorem dX6_find_21 : decode cX6_find 21 = .ok (.iload_n 3, 1) := by decide +kernel
theorem dX6_find_22 : decode cX6_find 22 = .ok (.ireturn, 1) := by decide +kernel
theorem dX6_find_23 : decode cX6_find 23 = .ok (.iinc 3 1, 3) := by decide +kernel
theorem dX6_find_26 : decode cX6_find 26 = .ok (.goto (-24), 3) := by decide +kernel
theorem dX6_find_29 : decode cX6_find 29 = .ok (.iconst (-1), 1) := by decide +kernel
theorem dX6_find_30 : decode cX6_find 30 = .ok (.ireturn, 1) := by decide +kernel
theorem dX6_expect_0 : decode cX6_expect 0 = .ok (.aload_n 0, 1) := by decide +kernel
theorem dX6_expect_1 : decode cX6_expect 1 = .ok (.invokevirtual 38, 3) := by decide +kernel
theorem dX6_expect_4 : decode cX6_expect 4 = .ok (.iload_n 1, 1) := by decide +kernel
theorem dX6_expect_5 : decode cX6_expect 5 = .ok (.if_icmp .ne 10, 3) := by decide +kernel
theorem dX6_expect_8 : decode cX6_expect 8 = .ok (.aload_n 0, 1) := by decide +kernel
theorem dX6_expect_9 : decode cX6_expect 9 = .ok (.invokevirtual 54, 3) := by decide +kernel
theorem dX6_expect_12 : decode cX6_expect 12 = .ok (.goto 8, 3) := by decide +kernel
theorem dX6_expect_15 : decode cX6_expect 15 = .ok (.aload_n 0, 1) := by decide +kernel
theorem dX6_expect_16 : decode cX6_expect 16 = .ok (.iconst 1, 1) := by decide +kernel
theorem dX6_expect_17 : decode cX6_expect 17 = .ok (.invokevirtual 139, 3) := by decide +kernel
theorem dX6_expect_20 : decode cX6_expect 20 = .ok (.return_, 1) := by decide +kernel
theorem dX6_pass_0 : decode cX6_pass 0 = .ok (.aload_n 0, 1) := by decide +kernel
theorem dX6_pass_1 : decode cX6_pass 1 = .ok (.getfield 34, 3) := by decide +kernel
theorem dX6_pass_4 : decode cX6_pass 4 = .ok (.ifCond .eq 4, 3) := by decide +kernel
theorem dX6_pass_7 : decode cX6_pass 7 = .ok (.return_, 1) := by decide +kernel
theorem dX6_pass_8 : decode cX6_pass 8 = .ok (.aload_n 0, 1) := by decide +kernel
theorem dX6_pass_9 : decode cX6_pass 9 = .ok (.getfield 98, 3) := by decide +kernel
theorem dX6_pass_12 : decode cX6_pass 12 = .ok (.sipush 400, 3) := by decide +kernel
theorem dX6_pass_15 : decode cX6_pass 15 = .ok (.if_icmp .ge 16, 3) := by decide +kernel
theorem dX6_pass_18 : decode cX6_pass 18 = .ok (.aload_n 0, 1) := by decide +kernel
theorem dX6_pass_19 : decode cX6_pass 19 = .ok (.dup, 1) := by decide +kernel
theorem dX6_pass_20 : decode cX6_pass 20 = .ok (.getfield 98, 3) := by decide +kernel
theorem dX6_pass_23 : decode cX6_pass 23 = .ok (.iconst 1, 1) := by decide +kernel
theorem dX6_pass_24 : decode cX6_pass 24 = .ok (.iadd, 1) := by decide +kernel
theorem dX6_pass_25 : decode cX6_pass 25 = .ok (.putfield 98, 3) := by decide +kernel
theorem dX6_pass_28 : decode cX6_pass 28 = .ok (.goto 24, 3) := by decide +kernel
theorem dX6_pass_31 : decode cX6_pass 31 = .ok (.aload_n 0, 1) := by decide +kernel
theorem dX6_pass_32 : decode cX6_pass 32 = .ok (.iconst 2, 1) := by decide +kernel
theorem dX6_pass_33 : decode cX6_pass 33 = .ok (.putfield 34, 3) := by decide +kernel
theorem dX6_pass_36 : decode cX6_pass 36 = .ok (.aload_n 0, 1) := by decide +kernel
theorem dX6_pass_37 : decode cX6_pass 37 = .ok (.aload_n 0, 1) := by decide +kernel
theorem dX6_pass_38 : decode cX6_pass 38 = .ok (.getfield 12, 3) := by decide +kernel
theorem dX6_pass_41 : decode cX6_pass 41 = .ok (.getfield 117, 3) := by decide +kernel
theorem dX6_pass_44 : decode cX6_pass 44 = .ok (.aload_n 0, 1) := by decide +kernel
theorem dX6_pass_45 : decode cX6_pass 45 = .ok (.getfield 98, 3) := by decide +kernel
theorem dX6_pass_48 : decode cX6_pass 48 = .ok (.iaload, 1) := by decide +kernel
theorem dX6_pass_49 : decode cX6_pass 49 = .ok (.putfield 88, 3) := by decide +kernel
theorem dX6_pass_52 : decode cX6_pass 52 = .ok (.return_, 1) := by decide +kernel
theorem dX6_fail_0 : decode cX6_fail 0 = .ok (.aload_n 0, 1) := by decide +kernel
theorem dX6_fail_1 : decode cX6_fail 1 = .ok (.getfield 34, 3) := by decide +kernel
theorem dX6_fail_4 : decode cX6_fail 4 = .ok (.ifCond .ne 24, 3) := by decide +kernel
theorem dX6_fail_7 : decode cX6_fail 7 = .ok (.aload_n 0, 1) := by decide +kernel
theorem dX6_fail_8 : decode cX6_fail 8 = .ok (.iload_n 1, 1) := by decide +kernel
theorem dX6_fail_9 : decode cX6_fail 9 = .ok (.putfield 34, 3) := by decide +kernel
theorem dX6_fail_12 : decode cX6_fail 12 = .ok (.aload_n 0, 1) := by decide +kernel
theorem dX6_fail_13 : decode cX6_fail 13 = .ok (.aload_n 0, 1) := by decide +kernel
theorem dX6_fail_14 : decode cX6_fail 14 = .ok (.getfield 12, 3) := by decide +kernel
theorem dX6_fail_17 : decode cX6_fail 17 = .ok (.getfield 117, 3) := by decide +kernel
theorem dX6_fail_20 : decode cX6_fail 20 = .ok (.aload_n 0, 1) := by decide +kernel
theorem dX6_fail_21 : decode cX6_fail 21 = .ok (.getfield 98, 3) := by decide +kernel
theorem dX6_fail_24 : decode cX6_fail 24 = .ok (.iaload, 1) := by decide +kernel
theorem dX6_fail_25 : decode cX6_fail 25 = .ok (.putfield 88, 3) := by decide +kernel
theorem dX6_fail_28 : decode cX6_fail 28 = .ok (.return_, 1) := by decide +kernel
theorem dX6_failLater_0 : decode cX6_failLater 0 = .ok (.aload_n 0, 1) := by decide +kernel
theorem dX6_failLater_1 : decode cX6_failLater 1 = .ok (.getfield 82, 3) := by decide +kernel
theorem dX6_failLater_4 : decode cX6_failLater 4 = .ok (.ifCond .ne 13, 3) := by decide +kernel
theorem dX6_failLater_7 : decode cX6_failLater 7 = .ok (.aload_n 0, 1) := by decide +kernel
theorem dX6_failLater_8 : decode cX6_failLater 8 = .ok (.iload_n 1, 1) := by decide +kernel
theorem dX6_failLater_9 : decode cX6_failLater 9 = .ok (.putfield 82, 3) := by decide +kernel
theorem dX6_failLater_12 : decode cX6_failLater 12 = .ok (.aload_n 0, 1) := by decide +kernel
theorem dX6_failLater_13 : decode cX6_failLater 13 = .ok (.iload_n 2, 1) := by decide +kernel
theorem dX6_failLater_14 : decode cX6_failLater 14 = .ok (.putfield 85, 3) := by decide +kernel
theorem dX6_failLater_17 : decode cX6_failLater 17 = .ok (.return_, 1) := by decide +kernel
theorem dX7_init_0 : decode cX7_init 0 = .ok (.aload_n 0, 1) := by decide +kernel
theorem dX7_init_1 : decode cX7_init 1 = .ok (.invokespecial 3, 3) := by decide +kernel
theorem dX7_init_4 : decode cX7_init 4 = .ok (.aload_n 0, 1) := by decide +kernel
theorem dX7_init_5 : decode cX7_init 5 = .ok (.sipush 2000, 3) := by decide +kernel
theorem dX7_init_8 : decode cX7_init 8 = .ok (.newarray .byte, 2) := by decide +kernel
theorem dX7_init_10 : decode cX7_init 10 = .ok (.putfield 11, 3) := by decide +kernel
theorem dX7_init_13 : decode cX7_init 13 = .ok (.return_, 1) := by decide +kernel
theorem dX7_append_0 : decode cX7_append 0 = .ok (.bipush 24, 2) := by decide +kernel
theorem dX7_append_2 : decode cX7_append 2 = .ok (.istore_n 2, 1) := by decide +kernel
theorem dX7_append_3 : decode cX7_append 3 = .ok (.iload_n 2, 1) := by decide +kernel
theorem dX7_append_4 : decode cX7_append 4 = .ok (.ifCond .lt 42, 3) := by decide +kernel
theorem dX7_append_7 : decode cX7_append 7 = .ok (.aload_n 0, 1) := by decide +kernel
theorem dX7_append_8 : decode cX7_append 8 = .ok (.getfield 15, 3) := by decide +kernel
theorem dX7_append_11 : decode cX7_append 11 = .ok (.sipush 2000, 3) := by decide +kernel
theorem dX7_append_14 : decode cX7_append 14 = .ok (.if_icmp .ge 32, 3) := by decide +kernel
theorem dX7_append_17 : decode cX7_append 17 = .ok (.aload_n 0, 1) := by decide +kernel
theorem dX7_append_18 : decode cX7_append 18 = .ok (.getfield 11, 3) := by decide +kernel
theorem dX7_append_21 : decode cX7_append 21 = .ok (.aload_n 0, 1) := by decide +kernel
theorem dX7_append_22 : decode cX7_append 22 = .ok (.getfield 15, 3) := by decide +kernel
theorem dX7_append_25 : decode cX7_append 25 = .ok (.iload_n 1, 1) := by decide +kernel
theorem dX7_append_26 : decode cX7_append 26 = .ok (.iload_n 2, 1) := by decide +kernel
theorem dX7_append_27 : decode cX7_append 27 = .ok (.ishr, 1) := by decide +kernel
theorem dX7_append_28 : decode cX7_append 28 = .ok (.i2b, 1) := by decide +kernel
theorem dX7_append_29 : decode cX7_append 29 = .ok (.bastore, 1) := by decide +kernel
theorem dX7_append_30 : decode cX7_append 30 = .ok (.aload_n 0, 1) := by decide +kernel
theorem dX7_append_31 : decode cX7_append 31 = .ok (.dup, 1) := by decide +kernel
theorem dX7_append_32 : decode cX7_append 32 = .ok (.getfield 15, 3) := by decide +kernel
theorem dX7_append_35 : decode cX7_append 35 = .ok (.iconst 1, 1) := by decide +kernel
theorem dX7_append_36 : decode cX7_append 36 = .ok (.iadd, 1) := by decide +kernel
theorem dX7_append_37 : decode cX7_append 37 = .ok (.putfield 15, 3) := by decide +kernel
theorem dX7_append_40 : decode cX7_append 40 = .ok (.iinc 2 (-8), 3) := by decide +kernel
theorem dX7_append_43 : decode cX7_append 43 = .ok (.goto (-40), 3) := by decide +kernel
theorem dX7_append_46 : decode cX7_append 46 = .ok (.return_, 1) := by decide +kernel
theorem dX7_byteAt_0 : decode cX7_byteAt 0 = .ok (.iload_n 1, 1) := by decide +kernel
theorem dX7_byteAt_1 : decode cX7_byteAt 1 = .ok (.ifCond .lt 18, 3) := by decide +kernel
theorem dX7_byteAt_4 : decode cX7_byteAt 4 = .ok (.iload_n 1, 1) := by decide +kernel
theorem dX7_byteAt_5 : decode cX7_byteAt 5 = .ok (.aload_n 0, 1) := by decide +kernel
theorem dX7_byteAt_6 : decode cX7_byteAt 6 = .ok (.getfield 15, 3) := by decide +kernel
theorem dX7_byteAt_9 : decode cX7_byteAt 9 = .ok (.if_icmp .ge 10, 3) := by decide +kernel
theorem dX7_byteAt_12 : decode cX7_byteAt 12 = .ok (.iload_n 1, 1) := by decide +kernel
theorem dX7_byteAt_13 : decode cX7_byteAt 13 = .ok (.sipush 2000, 3) := by decide +kernel
theorem dX7_byteAt_16 : decode cX7_byteAt 16 = .ok (.if_icmp .lt 7, 3) := by decide +kernel
theorem dX7_byteAt_19 : decode cX7_byteAt 19 = .ok (.iconst (-1), 1) := by decide +kernel
theorem dX7_byteAt_20 : decode cX7_byteAt 20 = .ok (.goto 13, 3) := by decide +kernel
theorem dX7_byteAt_23 : decode cX7_byteAt 23 = .ok (.aload_n 0, 1) := by decide +kernel
theorem dX7_byteAt_24 : decode cX7_byteAt 24 = .ok (.getfield 11, 3) := by decide +kernel
theorem dX7_byteAt_27 : decode cX7_byteAt 27 = .ok (.iload_n 1, 1) := by decide +kernel
theorem dX7_byteAt_28 : decode cX7_byteAt 28 = .ok (.baload, 1) := by decide +kernel
theorem dX7_byteAt_29 : decode cX7_byteAt 29 = .ok (.sipush 255, 3) := by decide +kernel
theorem dX7_byteAt_32 : decode cX7_byteAt 32 = .ok (.iand, 1) := by decide +kernel
theorem dX7_byteAt_33 : decode cX7_byteAt 33 = .ok (.ireturn, 1) := by decide +kernel
theorem dX8_init_0 : decode cX8_init 0 = .ok (.aload_n 0, 1) := by decide +kernel
theorem dX8_init_1 : decode cX8_init 1 = .ok (.invokespecial 3, 3) := by decide +kernel
theorem dX8_init_4 : decode cX8_init 4 = .ok (.aload_n 0, 1) := by decide +kernel
theorem dX8_init_5 : decode cX8_init 5 = .ok (.sipush 401, 3) := by decide +kernel
theorem dX8_init_8 : decode cX8_init 8 = .ok (.newarray .int, 2) := by decide +kernel
theorem dX8_init_10 : decode cX8_init 10 = .ok (.putfield 11, 3) := by decide +kernel
theorem dX8_init_13 : decode cX8_init 13 = .ok (.aload_n 0, 1) := by decide +kernel
theorem dX8_init_14 : decode cX8_init 14 = .ok (.sipush 401, 3) := by decide +kernel
theorem dX8_init_17 : decode cX8_init 17 = .ok (.newarray .int, 2) := by decide +kernel
theorem dX8_init_19 : decode cX8_init 19 = .ok (.putfield 15, 3) := by decide +kernel
theorem dX8_init_22 : decode cX8_init 22 = .ok (.aload_n 0, 1) := by decide +kernel
theorem dX8_init_23 : decode cX8_init 23 = .ok (.sipush 401, 3) := by decide +kernel
theorem dX8_init_26 : decode cX8_init 26 = .ok (.newarray .long, 2) := by decide +kernel
theorem dX8_init_28 : decode cX8_init 28 = .ok (.putfield 18, 3) := by decide +kernel
theorem dX8_init_31 : decode cX8_init 31 = .ok (.aload_n 0, 1) := by decide +kernel
theorem dX8_init_32 : decode cX8_init 32 = .ok (.bipush 23, 2) := by decide +kernel
theorem dX8_init_34 : decode cX8_init 34 = .ok (.newarray .long, 2) := by decide +kernel
theorem dX8_init_36 : decode cX8_init 36 = .ok (.putfield 22, 3) := by decide +kernel
theorem dX8_init_39 : decode cX8_init 39 = .ok (.iconst 0, 1) := by decide +kernel
theorem dX8_init_40 : decode cX8_init 40 = .ok (.istore_n 1, 1) := by decide +kernel
theorem dX8_init_41 : decode cX8_init 41 = .ok (.lconst 0, 1) := by decide +kernel
theorem dX8_init_42 : decode cX8_init 42 = .ok (.lstore_n 2, 1) := by decide +kernel
theorem dX8_init_43 : decode cX8_init 43 = .ok (.iconst 0, 1) := by decide +kernel
theorem dX8_init_44 : decode cX8_init 44 = .ok (.istore 4, 2) := by decide +kernel
theorem dX8_init_46 : decode cX8_init 46 = .ok (.iload 4, 2) := by decide +kernel
theorem dX8_init_48 : decode cX8_init 48 = .ok (.ldc 25, 2) := by decide +kernel
theorem dX8_init_50 : decode cX8_init 50 = .ok (.invokevirtual 27, 3) := by decide +kernel
theorem dX8_init_53 : decode cX8_init 53 = .ok (.if_icmp .ge 54, 3) := by decide +kernel
theorem dX8_init_56 : decode cX8_init 56 = .ok (.iload_n 1, 1) := by decide +kernel
theorem dX8_init_57 : decode cX8_init 57 = .ok (.bipush 23, 2) := by decide +kernel
theorem dX8_init_59 : decode cX8_init 59 = .ok (.if_icmp .ge 48, 3) := by decide +kernel
theorem dX8_init_62 : decode cX8_init 62 = .ok (.ldc 25, 2) := by decide +kernel
theorem dX8_init_64 : decode cX8_init 64 = .ok (.iload 4, 2) := by decide +kernel
theorem dX8_init_66 : decode cX8_init 66 = .ok (.invokevirtual 33, 3) := by decide +kernel
theorem dX8_init_69 : decode cX8_init 69 = .ok (.bipush 32, 2) := by decide +kernel
theorem dX8_init_71 : decode cX8_init 71 = .ok (.if_icmp .ne 18, 3) := by decide +kernel
theorem dX8_init_74 : decode cX8_init 74 = .ok (.aload_n 0, 1) := by decide +kernel
theorem dX8_init_75 : decode cX8_init 75 = .ok (.getfield 22, 3) := by decide +kernel
theorem dX8_init_78 : decode cX8_init 78 = .ok (.iload_n 1, 1) := by decide +kernel
theorem dX8_init_79 : decode cX8_init 79 = .ok (.lload_n 2, 1) := by decide +kernel
theorem dX8_init_80 : decode cX8_init 80 = .ok (.lastore, 1) := by decide +kernel
theorem dX8_init_81 : decode cX8_init 81 = .ok (.iinc 1 1, 3) := by decide +kernel
theorem dX8_init_84 : decode cX8_init 84 = .ok (.lconst 0, 1) := by decide +kernel
theorem dX8_init_85 : decode cX8_init 85 = .ok (.lstore_n 2, 1) := by decide +kernel
theorem dX8_init_86 : decode cX8_init 86 = .ok (.goto 15, 3) := by decide +kernel
theorem dX8_init_89 : decode cX8_init 89 = .ok (.lload_n 2, 1) := by decide +kernel
theorem dX8_init_90 : decode cX8_init 90 = .ok (.ldc 25, 2) := by decide +kernel
theorem dX8_init_92 : decode cX8_init 92 = .ok (.iload 4, 2) := by decide +kernel
theorem dX8_init_94 : decode cX8_init 94 = .ok (.invokevirtual 33, 3) := by decide +kernel
theorem dX8_init_97 : decode cX8_init 97 = .ok (.invokestatic 37, 3) := by decide +kernel
theorem dX8_init_100 : decode cX8_init 100 = .ok (.lstore_n 2, 1) := by decide +kernel
theorem dX8_init_101 : decode cX8_init 101 = .ok (.iinc 4 1, 3) := by decide +kernel
theorem dX8_init_104 : decode cX8_init 104 = .ok (.goto (-58), 3) := by decide +kernel
theorem dX8_init_107 : decode cX8_init 107 = .ok (.return_, 1) := by decide +kernel
theorem dX8_cutUp_0 : decode cX8_cutUp 0 = .ok (.iconst 0, 1) := by decide +kernel
theorem dX8_cutUp_1 : decode cX8_cutUp 1 = .ok (.istore_n 2, 1) := by decide +kernel
theorem dX8_cutUp_2 : decode cX8_cutUp 2 = .ok (.iconst 0, 1) := by decide +kernel
theorem dX8_cutUp_3 : decode cX8_cutUp 3 = .ok (.istore_n 3, 1) := by decide +kernel
theorem dX8_cutUp_4 : decode cX8_cutUp 4 = .ok (.iload_n 3, 1) := by decide +kernel
theorem dX8_cutUp_5 : decode cX8_cutUp 5 = .ok (.sipush 401, 3) := by decide +kernel
theorem dX8_cutUp_8 : decode cX8_cutUp 8 = .ok (.if_icmp .ge 50, 3) := by decide +kernel
theorem dX8_cutUp_11 : decode cX8_cutUp 11 = .ok (.aload_n 1, 1) := by decide +kernel
theorem dX8_cutUp_12 : decode cX8_cutUp 12 = .ok (.iload_n 2, 1) := by decide +kernel
theorem dX8_cutUp_13 : decode cX8_cutUp 13 = .ok (.invokestatic 41, 3) := by decide +kernel
theorem dX8_cutUp_16 : decode cX8_cutUp 16 = .ok (.istore_n 2, 1) := by decide +kernel
theorem dX8_cutUp_17 : decode cX8_cutUp 17 = .ok (.aload_n 0, 1) := by decide +kernel
theorem dX8_cutUp_18 : decode cX8_cutUp 18 = .ok (.getfield 15, 3) := by decide +kernel
theorem dX8_cutUp_21 : decode cX8_cutUp 21 = .ok (.iload_n 3, 1) := by decide +kernel
theorem dX8_cutUp_22 : decode cX8_cutUp 22 = .ok (.iload_n 2, 1) := by decide +kernel
theorem dX8_cutUp_23 : decode cX8_cutUp 23 = .ok (.iastore, 1) := by decide +kernel
theorem dX8_cutUp_24 : decode cX8_cutUp 24 = .ok (.aload_n 0, 1) := by decide +kernel
theorem dX8_cutUp_25 : decode cX8_cutUp 25 = .ok (.aload_n 1, 1) := by decide +kernel
theorem dX8_cutUp_26 : decode cX8_cutUp 26 = .ok (.iload_n 2, 1) := by decide +kernel
theorem dX8_cutUp_27 : decode cX8_cutUp 27 = .ok (.iload_n 3, 1) := by decide +kernel
theorem dX8_cutUp_28 : decode cX8_cutUp 28 = .ok (.invokevirtual 45, 3) := by decide +kernel
theorem dX8_cutUp_31 : decode cX8_cutUp 31 = .ok (.istore_n 2, 1) := by decide +kernel
theorem dX8_cutUp_32 : decode cX8_cutUp 32 = .ok (.aload_n 0, 1) := by decide +kernel
theorem dX8_cutUp_33 : decode cX8_cutUp 33 = .ok (.getfield 11, 3) := by decide +kernel
theorem dX8_cutUp_36 : decode cX8_cutUp 36 = .ok (.iload_n 3, 1) := by decide +kernel
theorem dX8_cutUp_37 : decode cX8_cutUp 37 = .ok (.iaload, 1) := by decide +kernel
theorem dX8_cutUp_38 : decode cX8_cutUp 38 = .ok (.ifCond .eq 13, 3) := by decide +kernel
theorem dX8_cutUp_41 : decode cX8_cutUp 41 = .ok (.aload_n 0, 1) := by decide +kernel
theorem dX8_cutUp_42 : decode cX8_cutUp 42 = .ok (.getfield 11, 3) := by decide +kernel
theorem dX8_cutUp_45 : decode cX8_cutUp 45 = .ok (.iload_n 3, 1) := by decide +kernel
theorem dX8_cutUp_46 : decode cX8_cutUp 46 = .ok (.iaload, 1) := by decide +kernel
theorem dX8_cutUp_47 : decode cX8_cutUp 47 = .ok (.iconst 1, 1) := by decide +kernel
theorem dX8_cutUp_48 : decode cX8_cutUp 48 = .ok (.if_icmp .ne 4, 3) := by decide +kernel
theorem dX8_cutUp_51 : decode cX8_cutUp 51 = .ok (.return_, 1) := by decide +kernel
theorem dX8_cutUp_52 : decode cX8_cutUp 52 = .ok (.iinc 3 1, 3) := by decide +kernel
theorem dX8_cutUp_55 : decode cX8_cutUp 55 = .ok (.goto (-51), 3) := by decide +kernel
theorem dX8_cutUp_58 : decode cX8_cutUp 58 = .ok (.return_, 1) := by decide +kernel
theorem dX8_cutOne_0 : decode cX8_cutOne 0 = .ok (.aload_n 1, 1) := by decide +kernel
theorem dX8_cutOne_1 : decode cX8_cutOne 1 = .ok (.iload_n 2, 1) := by decide +kernel
theorem dX8_cutOne_2 : decode cX8_cutOne 2 = .ok (.invokevirtual 49, 3) := by decide +kernel
theorem dX8_cutOne_5 : decode cX8_cutOne 5 = .ok (.istore 4, 2) := by decide +kernel
theorem dX8_cutOne_7 : decode cX8_cutOne 7 = .ok (.iload 4, 2) := by decide +kernel
theorem dX8_cutOne_9 : decode cX8_cutOne 9 = .ok (.invokestatic 55, 3) := by decide +kernel
theorem dX8_cutOne_12 : decode cX8_cutOne 12 = .ok (.ifCond .eq 11, 3) := by decide +kernel
theorem dX8_cutOne_15 : decode cX8_cutOne 15 = .ok (.aload_n 0, 1) := by decide +kernel
theorem dX8_cutOne_16 : decode cX8_cutOne 16 = .ok (.aload_n 1, 1) := by decide +kernel
theorem dX8_cutOne_17 : decode cX8_cutOne 17 = .ok (.iload_n 2, 1) := by decide +kernel
theorem dX8_cutOne_18 : decode cX8_cutOne 18 = .ok (.iload_n 3, 1) := by decide +kernel
theorem dX8_cutOne_19 : decode cX8_cutOne 19 = .ok (.invokevirtual 59, 3) := by decide +kernel
theorem dX8_cutOne_22 : decode cX8_cutOne 22 = .ok (.ireturn, 1) := by decide +kernel
theorem dX8_cutOne_23 : decode cX8_cutOne 23 = .ok (.iload 4, 2) := by decide +kernel
theorem dX8_cutOne_25 : decode cX8_cutOne 25 = .ok (.invokestatic 62, 3) := by decide +kernel
theorem dX8_cutOne_28 : decode cX8_cutOne 28 = .ok (.ifCond .eq 11, 3) := by decide +kernel
theorem dX8_cutOne_31 : decode cX8_cutOne 31 = .ok (.aload_n 0, 1) := by decide +kernel
theorem dX8_cutOne_32 : decode cX8_cutOne 32 = .ok (.aload_n 1, 1) := by decide +kernel
theorem dX8_cutOne_33 : decode cX8_cutOne 33 = .ok (.iload_n 2, 1) := by decide +kernel
theorem dX8_cutOne_34 : decode cX8_cutOne 34 = .ok (.iload_n 3, 1) := by decide +kernel
theorem dX8_cutOne_35 : decode cX8_cutOne 35 = .ok (.invokevirtual 65, 3) := by decide +kernel
theorem dX8_cutOne_38 : decode cX8_cutOne 38 = .ok (.ireturn, 1) := by decide +kernel
theorem dX8_cutOne_39 : decode cX8_cutOne 39 = .ok (.iload 4, 2) := by decide +kernel
theorem dX8_cutOne_41 : decode cX8_cutOne 41 = .ok (.iconst (-1), 1) := by decide +kernel
theorem dX8_cutOne_42 : decode cX8_cutOne 42 = .ok (.if_icmp .ne 13, 3) := by decide +kernel
theorem dX8_cutOne_45 : decode cX8_cutOne 45 = .ok (.aload_n 0, 1) := by decide +kernel
theorem dX8_cutOne_46 : decode cX8_cutOne 46 = .ok (.getfield 11, 3) := by decide +kernel
theorem dX8_cutOne_49 : decode cX8_cutOne 49 = .ok (.iload_n 3, 1) := by decide +kernel
theorem dX8_cutOne_50 : decode cX8_cutOne 50 = .ok (.iconst 0, 1) := by decide +kernel
theorem dX8_cutOne_51 : decode cX8_cutOne 51 = .ok (.iastore, 1) := by decide +kernel
theorem dX8_cutOne_52 : decode cX8_cutOne 52 = .ok (.goto 26, 3) := by decide +kernel
theorem dX8_cutOne_55 : decode cX8_cutOne 55 = .ok (.aload_n 0, 1) := by decide +kernel
theorem dX8_cutOne_56 : decode cX8_cutOne 56 = .ok (.getfield 11, 3) := by decide +kernel
theorem dX8_cutOne_59 : decode cX8_cutOne 59 = .ok (.iload_n 3, 1) := by decide +kernel
theorem dX8_cutOne_60 : decode cX8_cutOne 60 = .ok (.ldc 68, 2) := by decide +kernel
theorem dX8_cutOne_62 : decode cX8_cutOne 62 = .ok (.iload 4, 2) := by decide +kernel
theorem dX8_cutOne_64 : decode cX8_cutOne 64 = .ok (.i2c, 1) := by decide +kernel
theorem dX8_cutOne_65 : decode cX8_cutOne 65 = .ok (.invokevirtual 70, 3) := by decide +kernel
theorem dX8_cutOne_68 : decode cX8_cutOne 68 = .ok (.ifCond .lt 8, 3) := by decide +kernel
theorem dX8_cutOne_71 : decode cX8_cutOne 71 = .ok (.iload 4, 2) := by decide +kernel
theorem dX8_cutOne_73 : decode cX8_cutOne 73 = .ok (.goto 4, 3) := by decide +kernel
theorem dX8_cutOne_76 : decode cX8_cutOne 76 = .ok (.iconst 1, 1) := by decide +kernel
theorem dX8_cutOne_77 : decode cX8_cutOne 77 = .ok (.iastore, 1) := by decide +kernel
theorem dX8_cutOne_78 : decode cX8_cutOne 78 = .ok (.iload_n 2, 1) := by decide +kernel
theorem dX8_cutOne_79 : decode cX8_cutOne 79 = .ok (.iconst 1, 1) := by decide +kernel
theorem dX8_cutOne_80 : decode cX8_cutOne 80 = .ok (.iadd, 1) := by decide +kernel
theorem dX8_cutOne_81 : decode cX8_cutOne 81 = .ok (.ireturn, 1) := by decide +kernel
theorem dX8_cutLetters_0 : decode cX8_cutLetters 0 = .ok (.lconst 0, 1) := by decide +kernel
theorem dX8_cutLetters_1 : decode cX8_cutLetters 1 = .ok (.lstore 4, 2) := by decide +kernel
theorem dX8_cutLetters_3 : decode cX8_cutLetters 3 = .ok (.iload_n 2, 1) := by decide +kernel
theorem dX8_cutLetters_4 : decode cX8_cutLetters 4 = .ok (.istore 6, 2) := by decide +kernel
theorem dX8_cutLetters_6 : decode cX8_cutLetters 6 = .ok (.iload 6, 2) := by decide +kernel
theorem dX8_cutLetters_8 : decode cX8_cutLetters 8 = .ok (.aload_n 1, 1) := by decide +kernel
theorem dX8_cutLetters_9 : decode cX8_cutLetters 9 = .ok (.getfield 73, 3) := by decide +kernel
theorem dX8_cutLetters_12 : decode cX8_cutLetters 12 = .ok (.if_icmp .ge 34, 3) := by decide +kernel
theorem dX8_cutLetters_15 : decode cX8_cutLetters 15 = .ok (.aload_n 1, 1) := by decide +kernel
theorem dX8_cutLetters_16 : decode cX8_cutLetters 16 = .ok (.iload 6, 2) := by decide +kernel
theorem dX8_cutLetters_18 : decode cX8_cutLetters 18 = .ok (.invokevirtual 49, 3) := by decide +kernel
theorem dX8_cutLetters_21 : decode cX8_cutLetters 21 = .ok (.invokestatic 55, 3) := by decide +kernel
theorem dX8_cutLetters_24 : decode cX8_cutLetters 24 = .ok (.ifCond .eq 22, 3) := by decide +kernel
theorem dX8_cutLetters_27 : decode cX8_cutLetters 27 = .ok (.lload 4, 2) := by decide +kernel
theorem dX8_cutLetters_29 : decode cX8_cutLetters 29 = .ok (.aload_n 1, 1) := by decide +kernel
theorem dX8_cutLetters_30 : decode cX8_cutLetters 30 = .ok (.iload 6, 2) := by decide +kernel
theorem dX8_cutLetters_32 : decode cX8_cutLetters 32 = .ok (.invokevirtual 49, 3) := by decide +kernel
theorem dX8_cutLetters_35 : decode cX8_cutLetters 35 = .ok (.invokestatic 37, 3) := by decide +kernel
theorem dX8_cutLetters_38 : decode cX8_cutLetters 38 = .ok (.lstore 4, 2) := by decide +kernel
theorem dX8_cutLetters_40 : decode cX8_cutLetters 40 = .ok (.iinc 6 1, 3) := by decide +kernel
theorem dX8_cutLetters_43 : decode cX8_cutLetters 43 = .ok (.goto (-37), 3) := by decide +kernel
theorem dX8_cutLetters_46 : decode cX8_cutLetters 46 = .ok (.aload_n 0, 1) := by decide +kernel
theorem dX8_cutLetters_47 : decode cX8_cutLetters 47 = .ok (.getfield 18, 3) := by decide +kernel
theorem dX8_cutLetters_50 : decode cX8_cutLetters 50 = .ok (.iload_n 3, 1) := by decide +kernel
theorem dX8_cutLetters_51 : decode cX8_cutLetters 51 = .ok (.lload 4, 2) := by decide +kernel
theorem dX8_cutLetters_53 : decode cX8_cutLetters 53 = .ok (.lastore, 1) := by decide +kernel
theorem dX8_cutLetters_54 : decode cX8_cutLetters 54 = .ok (.aload_n 0, 1) := by decide +kernel
theorem dX8_cutLetters_55 : decode cX8_cutLetters 55 = .ok (.getfield 11, 3) := by decide +kernel
theorem dX8_cutLetters_58 : decode cX8_cutLetters 58 = .ok (.iload_n 3, 1) := by decide +kernel
theorem dX8_cutLetters_59 : decode cX8_cutLetters 59 = .ok (.iload 6, 2) := by decide +kernel
theorem dX8_cutLetters_61 : decode cX8_cutLetters 61 = .ok (.iload_n 2, 1) := by decide +kernel
theorem dX8_cutLetters_62 : decode cX8_cutLetters 62 = .ok (.isub, 1) := by decide +kernel
theorem dX8_cutLetters_63 : decode cX8_cutLetters 63 = .ok (.bipush 8, 2) := by decide +kernel
theorem dX8_cutLetters_65 : decode cX8_cutLetters 65 = .ok (.if_icmp .le 7, 3) := by decide +kernel
theorem dX8_cutLetters_68 : decode cX8_cutLetters 68 = .ok (.iconst 1, 1) := by decide +kernel
theorem dX8_cutLetters_69 : decode cX8_cutLetters 69 = .ok (.goto 9, 3) := by decide +kernel
theorem dX8_cutLetters_72 : decode cX8_cutLetters 72 = .ok (.aload_n 0, 1) := by decide +kernel
theorem dX8_cutLetters_73 : decode cX8_cutLetters 73 = .ok (.lload 4, 2) := by decide +kernel
theorem dX8_cutLetters_75 : decode cX8_cutLetters 75 = .ok (.invokevirtual 76, 3) := by decide +kernel
theorem dX8_cutLetters_78 : decode cX8_cutLetters 78 = .ok (.iastore, 1) := by decide +kernel
theorem dX8_cutLetters_79 : decode cX8_cutLetters 79 = .ok (.iload 6, 2) := by decide +kernel
theorem dX8_cutLetters_81 : decode cX8_cutLetters 81 = .ok (.ireturn, 1) := by decide +kernel
theorem dX8_cutDigits_0 : decode cX8_cutDigits 0 = .ok (.lconst 0, 1) := by decide +kernel
theorem dX8_cutDigits_1 : decode cX8_cutDigits 1 = .ok (.lstore 4, 2) := by decide +kernel
theorem dX8_cutDigits_3 : decode cX8_cutDigits 3 = .ok (.iload_n 2, 1) := by decide +kernel
theorem dX8_cutDigits_4 : decode cX8_cutDigits 4 = .ok (.istore 6, 2) := by decide +kernel
theorem dX8_cutDigits_6 : decode cX8_cutDigits 6 = .ok (.iload 6, 2) := by decide +kernel
theorem dX8_cutDigits_8 : decode cX8_cutDigits 8 = .ok (.aload_n 1, 1) := by decide +kernel
theorem dX8_cutDigits_9 : decode cX8_cutDigits 9 = .ok (.getfield 73, 3) := by decide +kernel
theorem dX8_cutDigits_12 : decode cX8_cutDigits 12 = .ok (.if_icmp .ge 41, 3) := by decide +kernel
theorem dX8_cutDigits_15 : decode cX8_cutDigits 15 = .ok (.aload_n 1, 1) := by decide +kernel
theorem dX8_cutDigits_16 : decode cX8_cutDigits 16 = .ok (.iload 6, 2) := by decide +kernel
theorem dX8_cutDigits_18 : decode cX8_cutDigits 18 = .ok (.invokevirtual 49, 3) := by decide +kernel
theorem dX8_cutDigits_21 : decode cX8_cutDigits 21 = .ok (.invokestatic 62, 3) := by decide +kernel
theorem dX8_cutDigits_24 : decode cX8_cutDigits 24 = .ok (.ifCond .eq 29, 3) := by decide +kernel
theorem dX8_cutDigits_27 : decode cX8_cutDigits 27 = .ok (.lload 4, 2) := by decide +kernel
theorem dX8_cutDigits_29 : decode cX8_cutDigits 29 = .ok (.ldc2_w 80, 3) := by decide +kernel
theorem dX8_cutDigits_32 : decode cX8_cutDigits 32 = .ok (.lmul, 1) := by decide +kernel
theorem dX8_cutDigits_33 : decode cX8_cutDigits 33 = .ok (.aload_n 1, 1) := by decide +kernel
theorem dX8_cutDigits_34 : decode cX8_cutDigits 34 = .ok (.iload 6, 2) := by decide +kernel
theorem dX8_cutDigits_36 : decode cX8_cutDigits 36 = .ok (.invokevirtual 49, 3) := by decide +kernel
theorem dX8_cutDigits_39 : decode cX8_cutDigits 39 = .ok (.i2l, 1) := by decide +kernel
theorem dX8_cutDigits_40 : decode cX8_cutDigits 40 = .ok (.ladd, 1) := by decide +kernel
theorem dX8_cutDigits_41 : decode cX8_cutDigits 41 = .ok (.ldc2_w 82, 3) := by decide +kernel
theorem dX8_cutDigits_44 : decode cX8_cutDigits 44 = .ok (.lsub, 1) := by decide +kernel
theorem dX8_cutDigits_45 : decode cX8_cutDigits 45 = .ok (.lstore 4, 2) := by decide +kernel
theorem dX8_cutDigits_47 : decode cX8_cutDigits 47 = .ok (.iinc 6 1, 3) := by decide +kernel
theorem dX8_cutDigits_50 : decode cX8_cutDigits 50 = .ok (.goto (-44), 3) := by decide +kernel
theorem dX8_cutDigits_53 : decode cX8_cutDigits 53 = .ok (.aload_n 0, 1) := by decide +kernel
theorem dX8_cutDigits_54 : decode cX8_cutDigits 54 = .ok (.getfield 18, 3) := by decide +kernel
theorem dX8_cutDigits_57 : decode cX8_cutDigits 57 = .ok (.iload_n 3, 1) := by decide +kernel
theorem dX8_cutDigits_58 : decode cX8_cutDigits 58 = .ok (.lload 4, 2) := by decide +kernel
theorem dX8_cutDigits_60 : decode cX8_cutDigits 60 = .ok (.lastore, 1) := by decide +kernel
theorem dX8_cutDigits_61 : decode cX8_cutDigits 61 = .ok (.aload_n 0, 1) := by decide +kernel
theorem dX8_cutDigits_62 : decode cX8_cutDigits 62 = .ok (.getfield 11, 3) := by decide +kernel
theorem dX8_cutDigits_65 : decode cX8_cutDigits 65 = .ok (.iload_n 3, 1) := by decide +kernel
theorem dX8_cutDigits_66 : decode cX8_cutDigits 66 = .ok (.iload 6, 2) := by decide +kernel
theorem dX8_cutDigits_68 : decode cX8_cutDigits 68 = .ok (.iload_n 2, 1) := by decide +kernel
theorem dX8_cutDigits_69 : decode cX8_cutDigits 69 = .ok (.isub, 1) := by decide +kernel
theorem dX8_cutDigits_70 : decode cX8_cutDigits 70 = .ok (.iconst 4, 1) := by decide +kernel
theorem dX8_cutDigits_71 : decode cX8_cutDigits 71 = .ok (.if_icmp .le 7, 3) := by decide +kernel
theorem dX8_cutDigits_74 : decode cX8_cutDigits 74 = .ok (.iconst 1, 1) := by decide +kernel
theorem dX8_cutDigits_75 : decode cX8_cutDigits 75 = .ok (.goto 4, 3) := by decide +kernel
theorem dX8_cutDigits_78 : decode cX8_cutDigits 78 = .ok (.iconst 3, 1) := by decide +kernel
theorem dX8_cutDigits_79 : decode cX8_cutDigits 79 = .ok (.iastore, 1) := by decide +kernel
theorem dX8_cutDigits_80 : decode cX8_cutDigits 80 = .ok (.iload 6, 2) := by decide +kernel
theorem dX8_cutDigits_82 : decode cX8_cutDigits 82 = .ok (.ireturn, 1) := by decide +kernel
theorem dX8_kindOf_0 : decode cX8_kindOf 0 = .ok (.iconst 0, 1) := by decide +kernel
theorem dX8_kindOf_1 : decode cX8_kindOf 1 = .ok (.istore_n 3, 1) := by decide +kernel
theorem dX8_kindOf_2 : decode cX8_kindOf 2 = .ok (.iload_n 3, 1) := by decide +kernel
theorem dX8_kindOf_3 : decode cX8_kindOf 3 = .ok (.bipush 23, 2) := by decide +kernel
theorem dX8_kindOf_5 : decode cX8_kindOf 5 = .ok (.if_icmp .ge 26, 3) := by decide +kernel
theorem dX8_kindOf_8 : decode cX8_kindOf 8 = .ok (.aload_n 0, 1) := by decide +kernel
theorem dX8_kindOf_9 : decode cX8_kindOf 9 = .ok (.getfield 22, 3) := by decide +kernel
theorem dX8_kindOf_12 : decode cX8_kindOf 12 = .ok (.iload_n 3, 1) := by decide +kernel
theorem dX8_kindOf_13 : decode cX8_kindOf 13 = .ok (.laload, 1) := by decide +kernel
theorem dX8_kindOf_14 : decode cX8_kindOf 14 = .ok (.lload_n 1, 1) := by decide +kernel
theorem dX8_kindOf_15 : decode cX8_kindOf 15 = .ok (.lcmp, 1) := by decide +kernel
theorem dX8_kindOf_16 : decode cX8_kindOf 16 = .ok (.ifCond .ne 9, 3) := by decide +kernel
theorem dX8_kindOf_19 : decode cX8_kindOf 19 = .ok (.sipush 128, 3) := by decide +kernel
theorem dX8_kindOf_22 : decode cX8_kindOf 22 = .ok (.iload_n 3, 1) := by decide +kernel
theorem dX8_kindOf_23 : decode cX8_kindOf 23 = .ok (.iadd, 1) := by decide +kernel
theorem dX8_kindOf_24 : decode cX8_kindOf 24 = .ok (.ireturn, 1) := by decide +kernel
theorem dX8_kindOf_25 : decode cX8_kindOf 25 = .ok (.iinc 3 1, 3) := by decide +kernel
theorem dX8_kindOf_28 : decode cX8_kindOf 28 = .ok (.goto (-26), 3) := by decide +kernel
theorem dX8_kindOf_31 : decode cX8_kindOf 31 = .ok (.iconst 2, 1) := by decide +kernel
theorem dX8_kindOf_32 : decode cX8_kindOf 32 = .ok (.ireturn, 1) := by decide +kernel
theorem dX8_behindBlanks_0 : decode cX8_behindBlanks 0 = .ok (.iload_n 1, 1) := by decide +kernel
theorem dX8_behindBlanks_1 : decode cX8_behindBlanks 1 = .ok (.istore_n 2, 1) := by decide +kernel
theorem dX8_behindBlanks_2 : decode cX8_behindBlanks 2 = .ok (.iload_n 2, 1) := by decide +kernel
theorem dX8_behindBlanks_3 : decode cX8_behindBlanks 3 = .ok (.aload_n 0, 1) := by decide +kernel
theorem dX8_behindBlanks_4 : decode cX8_behindBlanks 4 = .ok (.getfield 73, 3) := by decide +kernel
theorem dX8_behindBlanks_7 : decode cX8_behindBlanks 7 = .ok (.if_icmp .ge 20, 3) := by decide +kernel
theorem dX8_behindBlanks_10 : decode cX8_behindBlanks 10 = .ok (.aload_n 0, 1) := by decide +kernel
theorem dX8_behindBlanks_11 : decode cX8_behindBlanks 11 = .ok (.iload_n 2, 1) := by decide +kernel
theorem dX8_behindBlanks_12 : decode cX8_behindBlanks 12 = .ok (.invokevirtual 49, 3) := by decide +kernel
theorem dX8_behindBlanks_15 : decode cX8_behindBlanks 15 = .ok (.invokestatic 84, 3) := by decide +kernel
theorem dX8_behindBlanks_18 : decode cX8_behindBlanks 18 = .ok (.ifCond .eq 9, 3) := by decide +kernel
theorem dX8_behindBlanks_21 : decode cX8_behindBlanks 21 = .ok (.iinc 2 1, 3) := by decide +kernel
theorem dX8_behindBlanks_24 : decode cX8_behindBlanks 24 = .ok (.goto (-22), 3) := by decide +kernel
theorem dX8_behindBlanks_27 : decode cX8_behindBlanks 27 = .ok (.iload_n 2, 1) := by decide +kernel
theorem dX8_behindBlanks_28 : decode cX8_behindBlanks 28 = .ok (.ireturn, 1) := by decide +kernel
theorem dX8_spell_0 : decode cX8_spell 0 = .ok (.lload_n 0, 1) := by decide +kernel
theorem dX8_spell_1 : decode cX8_spell 1 = .ok (.ldc2_w 87, 3) := by decide +kernel
theorem dX8_spell_4 : decode cX8_spell 4 = .ok (.lmul, 1) := by decide +kernel
theorem dX8_spell_5 : decode cX8_spell 5 = .ok (.iload_n 2, 1) := by decide +kernel
theorem dX8_spell_6 : decode cX8_spell 6 = .ok (.i2l, 1) := by decide +kernel
theorem dX8_spell_7 : decode cX8_spell 7 = .ok (.ladd, 1) := by decide +kernel
theorem dX8_spell_8 : decode cX8_spell 8 = .ok (.ldc2_w 89, 3) := by decide +kernel
theorem dX8_spell_11 : decode cX8_spell 11 = .ok (.lsub, 1) := by decide +kernel
theorem dX8_spell_12 : decode cX8_spell 12 = .ok (.lconst 1, 1) := by decide +kernel
theorem dX8_spell_13 : decode cX8_spell 13 = .ok (.ladd, 1) := by decide +kernel
theorem dX8_spell_14 : decode cX8_spell 14 = .ok (.lreturn, 1) := by decide +kernel
theorem dX8_isLetter_0 : decode cX8_isLetter 0 = .ok (.iload_n 0, 1) := by decide +kernel
theorem dX8_isLetter_1 : decode cX8_isLetter 1 = .ok (.bipush 97, 2) := by decide +kernel
theorem dX8_isLetter_3 : decode cX8_isLetter 3 = .ok (.if_icmp .lt 13, 3) := by decide +kernel
theorem dX8_isLetter_6 : decode cX8_isLetter 6 = .ok (.iload_n 0, 1) := by decide +kernel
theorem dX8_isLetter_7 : decode cX8_isLetter 7 = .ok (.bipush 122, 2) := by decide +kernel
theorem dX8_isLetter_9 : decode cX8_isLetter 9 = .ok (.if_icmp .gt 7, 3) := by decide +kernel
theorem dX8_isLetter_12 : decode cX8_isLetter 12 = .ok (.iconst 1, 1) := by decide +kernel
theorem dX8_isLetter_13 : decode cX8_isLetter 13 = .ok (.goto 4, 3) := by decide +kernel
theorem dX8_isLetter_16 : decode cX8_isLetter 16 = .ok (.iconst 0, 1) := by decide +kernel
theorem dX8_isLetter_17 : decode cX8_isLetter 17 = .ok (.ireturn, 1) := by decide +kernel
theorem dX8_isDigit_0 : decode cX8_isDigit 0 = .ok (.iload_n 0, 1) := by decide +kernel
theorem dX8_isDigit_1 : decode cX8_isDigit 1 = .ok (.bipush 48, 2) := by decide +kernel
theorem dX8_isDigit_3 : decode cX8_isDigit 3 = .ok (.if_icmp .lt 13, 3) := by decide +kernel
theorem dX8_isDigit_6 : decode cX8_isDigit 6 = .ok (.iload_n 0, 1) := by decide +kernel
theorem dX8_isDigit_7 : decode cX8_isDigit 7 = .ok (.bipush 57, 2) := by decide +kernel
theorem dX8_isDigit_9 : decode cX8_isDigit 9 = .ok (.if_icmp .gt 7, 3) := by decide +kernel
theorem dX8_isDigit_12 : decode cX8_isDigit 12 = .ok (.iconst 1, 1) := by decide +kernel
theorem dX8_isDigit_13 : decode cX8_isDigit 13 = .ok (.goto 4, 3) := by decide +kernel
theorem dX8_isDigit_16 : decode cX8_isDigit 16 = .ok (.iconst 0, 1) := by decide +kernel
theorem dX8_isDigit_17 : decode cX8_isDigit 17 = .ok (.ireturn, 1) := by decide +kernel
theorem dX8_isBlank_0 : decode cX8_isBlank 0 = .ok (.iload_n 0, 1) := by decide +kernel
theorem dX8_isBlank_1 : decode cX8_isBlank 1 = .ok (.bipush 9, 2) := by decide +kernel
theorem dX8_isBlank_3 : decode cX8_isBlank 3 = .ok (.if_icmp .eq 21, 3) := by decide +kernel
theorem dX8_isBlank_6 : decode cX8_isBlank 6 = .ok (.iload_n 0, 1) := by decide +kernel
theorem dX8_isBlank_7 : decode cX8_isBlank 7 = .ok (.bipush 10, 2) := by decide +kernel
theorem dX8_isBlank_9 : decode cX8_isBlank 9 = .ok (.if_icmp .eq 15, 3) := by decide +kernel
theorem dX8_isBlank_12 : decode cX8_isBlank 12 = .ok (.iload_n 0, 1) := by decide +kernel
theorem dX8_isBlank_13 : decode cX8_isBlank 13 = .ok (.bipush 13, 2) := by decide +kernel
theorem dX8_isBlank_15 : decode cX8_isBlank 15 = .ok (.if_icmp .eq 9, 3) := by decide +kernel
theorem dX8_isBlank_18 : decode cX8_isBlank 18 = .ok (.iload_n 0, 1) := by decide +kernel
theorem dX8_isBlank_19 : decode cX8_isBlank 19 = .ok (.bipush 32, 2) := by decide +kernel
theorem dX8_isBlank_21 : decode cX8_isBlank 21 = .ok (.if_icmp .ne 7, 3) := by decide +kernel
theorem dX8_isBlank_24 : decode cX8_isBlank 24 = .ok (.iconst 1, 1) := by decide +kernel

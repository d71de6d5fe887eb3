-- by program: wip/whole/gen/build_parts.py
def f_X4_clear (M : Mem) : Option (Mem) :=
  lt (sI M 57 0 (0 : Int32)) fun M1 =>
  lt (sI M1 57 1 (0 : Int32)) fun M2 =>
  some M2
set_option maxHeartbeats 1000000 in
set_option maxRecDepth 20000 in
theorem t_X4_clear {g : GG} {d : Nat} (hd : 1 ≤ d) {M : Mem} {M' : Mem} (hf : f_X4_clear M = some M') : ExM g d iX4_clear [.ref 57] LAY M (none, LAY, M') := by
  have hd1 : 1 ≤ d := by omega
  refine ExM.main pnX4 rfl (ls := [some (.ref 57)]) rfl ?_
  intro P hP
  rw [f_X4_clear] at hf
  refine x_aload_n hP dX4_clear_0 rfl ?_
  refine x_iconst hP dX4_clear_1 (v := 0) rfl ?_
  obtain ⟨M1, hM1, hf⟩ := b_lt hf
  refine y_putI hP fX4_20 lay57 hM1 dX4_clear_2 ?_
  refine x_aload_n hP dX4_clear_5 rfl ?_
  refine x_iconst hP dX4_clear_6 (v := 0) rfl ?_
  obtain ⟨M2, hM2, hf⟩ := b_lt hf
  refine y_putI hP fX4_24 lay57 hM2 dX4_clear_7 ?_
  cases hf
  exact x_vret hP rfl dX4_clear_10
def f_X4_write (n0 : Nat) (a1 : Nat) (n1 : Nat) (x2 : Int32) (M : Mem) : Option (Mem) :=
  lt (x2 * (38 : Int32) : Int32) fun v1 =>
  (pg M a1 n1 v1 (M.1 n0 1)).bind fun M2 =>
  (pg M2 a1 n1 (v1 + (1 : Int32)) (M2.1 n0 2)).bind fun M3 =>
  (pg M3 a1 n1 (v1 + (2 : Int32)) (M3.1 n0 3)).bind fun M4 =>
  (pg M4 a1 n1 (v1 + (3 : Int32)) (M4.1 n0 4)).bind fun M5 =>
  lt (v1 + 4 : Int32) fun v6 =>
  (cp M5 (n0 + 1) 6 a1 n1 (0 : Int32) v6 (6 : Int32)).bind fun M7 =>
  (cp M7 (n0 + 2) 6 a1 n1 (0 : Int32) (v6 + (6 : Int32)) (6 : Int32)).bind fun M8 =>
  (cp M8 (n0 + 3) 6 a1 n1 (0 : Int32) (v6 + (12 : Int32)) (6 : Int32)).bind fun M9 =>
  (cp M9 (n0 + 4) 6 a1 n1 (0 : Int32) (v6 + (18 : Int32)) (6 : Int32)).bind fun M10 =>
  (cp M10 (n0 + 5) 5 a1 n1 (0 : Int32) (v6 + (24 : Int32)) (5 : Int32)).bind fun M11 =>
  (cp M11 (n0 + 6) 5 a1 n1 (0 : Int32) ((v6 + (24 : Int32)) + (5 : Int32)) (5 : Int32)).bind fun M12 =>
  some M12
set_option maxHeartbeats 1000000 in
set_option maxRecDepth 20000 in
theorem t_X4_write {g : GG} {d : Nat} (hd : 2 ≤ d) {n0 : Nat} (hn0 : isN n0) {a1 : Nat} {n1 : Nat} (ha1 : LAY[a1]? = some (.inl (.int, n1))) {x2 : Int32} {M : Mem} {M' : Mem} (hf : f_X4_write n0 a1 n1 x2 M = some M') : ExM g d iX4_write [.ref n0, .ref a1, .int x2] LAY M (none, LAY, M') := by
  have hd1 : 1 ≤ d := by omega
  refine ExM.main pnX4 rfl (ls := [some (.ref n0), some (.ref a1), some (.int x2), none]) rfl ?_
  intro P hP
  rw [f_X4_write] at hf
  refine x_iload_n hP dX4_write_0 rfl ?_
  refine x_bipush hP dX4_write_1 (v := 38) rfl ?_
  refine x_imul hP dX4_write_3 ?_
  obtain ⟨v1, hv1, hf⟩ := b_lt hf
  refine y_nmI hv1 ?_
  refine x_istore_n hP (ls2 := [some (.ref n0), some (.ref a1), some (.int x2), some (.int v1)]) dX4_write_4 rfl rfl rfl ?_
  refine x_aload_n hP dX4_write_5 rfl ?_
  refine x_iload_n hP dX4_write_6 rfl ?_
  refine x_aload_n hP dX4_write_7 rfl ?_
  refine x_getI hP fX4_44 (layN hn0) dX4_write_8 ?_
  obtain ⟨M2, hiM2, hM2, hf⟩ := b_pg hf
  refine y_ast hP ha1 hiM2 hM2 dX4_write_11 ?_
  refine x_aload_n hP dX4_write_12 rfl ?_
  refine x_iload_n hP dX4_write_13 rfl ?_
  refine x_iconst hP dX4_write_14 (v := 1) rfl ?_
  refine x_iadd hP dX4_write_15 ?_
  refine x_aload_n hP dX4_write_16 rfl ?_
  refine x_getI hP fX4_47 (layN hn0) dX4_write_17 ?_
  obtain ⟨M3, hiM3, hM3, hf⟩ := b_pg hf
  refine y_ast hP ha1 hiM3 hM3 dX4_write_20 ?_
  refine x_aload_n hP dX4_write_21 rfl ?_
  refine x_iload_n hP dX4_write_22 rfl ?_
  refine x_iconst hP dX4_write_23 (v := 2) rfl ?_
  refine x_iadd hP dX4_write_24 ?_
  refine x_aload_n hP dX4_write_25 rfl ?_
  refine x_getI hP fX4_50 (layN hn0) dX4_write_26 ?_
  obtain ⟨M4, hiM4, hM4, hf⟩ := b_pg hf
  refine y_ast hP ha1 hiM4 hM4 dX4_write_29 ?_
  refine x_aload_n hP dX4_write_30 rfl ?_
  refine x_iload_n hP dX4_write_31 rfl ?_
  refine x_iconst hP dX4_write_32 (v := 3) rfl ?_
  refine x_iadd hP dX4_write_33 ?_
  refine x_aload_n hP dX4_write_34 rfl ?_
  refine x_getI hP fX4_53 (layN hn0) dX4_write_35 ?_
  obtain ⟨M5, hiM5, hM5, hf⟩ := b_pg hf
  refine y_ast hP ha1 hiM5 hM5 dX4_write_38 ?_
  obtain ⟨v6, hv6, hf⟩ := b_lt hf
  refine x_iinc hP (v := v6) (ls2 := [some (.ref n0), some (.ref a1), some (.int x2), some (.int v6)]) dX4_write_39 rfl (by rw [hv6]; rfl) rfl rfl ?_
  refine x_aload_n hP dX4_write_42 rfl ?_
  refine x_getA hP fX4_56 (layN hn0) (r := n0 + 1) rfl dX4_write_43 ?_
  refine x_iconst hP dX4_write_46 (v := 0) rfl ?_
  refine x_aload_n hP dX4_write_47 rfl ?_
  refine x_iload_n hP dX4_write_48 rfl ?_
  refine x_bipush hP dX4_write_49 (v := 6) rfl ?_
  obtain ⟨M7, hiM7, hM7, hf⟩ := b_cp hf
  refine y_cpy hP lX4_59 (layN_1 hn0) ha1 hiM7 hM7 rfl hd1 dX4_write_51 ?_
  refine x_aload_n hP dX4_write_54 rfl ?_
  refine x_getA hP fX4_65 (layN hn0) (r := n0 + 2) rfl dX4_write_55 ?_
  refine x_iconst hP dX4_write_58 (v := 0) rfl ?_
  refine x_aload_n hP dX4_write_59 rfl ?_
  refine x_iload_n hP dX4_write_60 rfl ?_
  refine x_bipush hP dX4_write_61 (v := 6) rfl ?_
  refine x_iadd hP dX4_write_63 ?_
  refine x_bipush hP dX4_write_64 (v := 6) rfl ?_
  obtain ⟨M8, hiM8, hM8, hf⟩ := b_cp hf
  refine y_cpy hP lX4_59 (layN_2 hn0) ha1 hiM8 hM8 rfl hd1 dX4_write_66 ?_
  refine x_aload_n hP dX4_write_69 rfl ?_
  refine x_getA hP fX4_68 (layN hn0) (r := n0 + 3) rfl dX4_write_70 ?_
  refine x_iconst hP dX4_write_73 (v := 0) rfl ?_
  refine x_aload_n hP dX4_write_74 rfl ?_
  refine x_iload_n hP dX4_write_75 rfl ?_
  refine x_bipush hP dX4_write_76 (v := 12) rfl ?_
  refine x_iadd hP dX4_write_78 ?_
  refine x_bipush hP dX4_write_79 (v := 6) rfl ?_
  obtain ⟨M9, hiM9, hM9, hf⟩ := b_cp hf
  refine y_cpy hP lX4_59 (layN_3 hn0) ha1 hiM9 hM9 rfl hd1 dX4_write_81 ?_
  refine x_aload_n hP dX4_write_84 rfl ?_
  refine x_getA hP fX4_71 (layN hn0) (r := n0 + 4) rfl dX4_write_85 ?_
  refine x_iconst hP dX4_write_88 (v := 0) rfl ?_
  refine x_aload_n hP dX4_write_89 rfl ?_
  refine x_iload_n hP dX4_write_90 rfl ?_
  refine x_bipush hP dX4_write_91 (v := 18) rfl ?_
  refine x_iadd hP dX4_write_93 ?_
  refine x_bipush hP dX4_write_94 (v := 6) rfl ?_
  obtain ⟨M10, hiM10, hM10, hf⟩ := b_cp hf
  refine y_cpy hP lX4_59 (layN_4 hn0) ha1 hiM10 hM10 rfl hd1 dX4_write_96 ?_
  refine x_aload_n hP dX4_write_99 rfl ?_
  refine x_getA hP fX4_74 (layN hn0) (r := n0 + 5) rfl dX4_write_100 ?_
  refine x_iconst hP dX4_write_103 (v := 0) rfl ?_
  refine x_aload_n hP dX4_write_104 rfl ?_
  refine x_iload_n hP dX4_write_105 rfl ?_
  refine x_bipush hP dX4_write_106 (v := 24) rfl ?_
  refine x_iadd hP dX4_write_108 ?_
  refine x_iconst hP dX4_write_109 (v := 5) rfl ?_
  obtain ⟨M11, hiM11, hM11, hf⟩ := b_cp hf
  refine y_cpy hP lX4_59 (layN_5 hn0) ha1 hiM11 hM11 rfl hd1 dX4_write_110 ?_
  refine x_aload_n hP dX4_write_113 rfl ?_
  refine x_getA hP fX4_77 (layN hn0) (r := n0 + 6) rfl dX4_write_114 ?_
  refine x_iconst hP dX4_write_117 (v := 0) rfl ?_
  refine x_aload_n hP dX4_write_118 rfl ?_
  refine x_iload_n hP dX4_write_119 rfl ?_
  refine x_bipush hP dX4_write_120 (v := 24) rfl ?_
  refine x_iadd hP dX4_write_122 ?_
  refine x_iconst hP dX4_write_123 (v := 5) rfl ?_
  refine x_iadd hP dX4_write_124 ?_
  refine x_iconst hP dX4_write_125 (v := 5) rfl ?_
  obtain ⟨M12, hiM12, hM12, hf⟩ := b_cp hf
  refine y_cpy hP lX4_59 (layN_6 hn0) ha1 hiM12 hM12 rfl hd1 dX4_write_126 ?_
  cases hf
  exact x_vret hP rfl dX4_write_129
def f_X4_note (n1 : Nat) (M : Mem) : Option (Mem) :=
  (f_X4_write n1 58 1520 (M.1 57 4) M).bind fun M2 =>
  lt (sI M2 57 4 (((M2.1 57 4) + (1 : Int32)) - ((M2.1 57 4) + (1 : Int32)) / (40 : Int32) * (40 : Int32))) fun M3 =>
  lt (if (M3.1 57 0) + (1 : Int32) < (40 : Int32) then (M3.1 57 0) + (1 : Int32) else (40 : Int32) : Int32) fun v4 =>
  lt (sI M3 57 0 v4) fun M5 =>
  some M5
set_option maxHeartbeats 1000000 in
set_option maxRecDepth 20000 in
theorem t_X4_note {g : GG} {d : Nat} (hd : 3 ≤ d) {n1 : Nat} (hn1 : isN n1) {M : Mem} {M' : Mem} (hf : f_X4_note n1 M = some M') : ExM g d iX4_note [.ref 57, .ref n1] LAY M (none, LAY, M') := by
  have hd1 : 1 ≤ d := by omega
  refine ExM.main pnX4 rfl (ls := [some (.ref 57), some (.ref n1)]) rfl ?_
  intro P hP
  rw [f_X4_note] at hf
  refine x_aload_n hP dX4_note_0 rfl ?_
  refine x_aload_n hP dX4_note_1 rfl ?_
  refine x_getA hP fX4_13 lay57 (r := 58) rfl dX4_note_2 ?_
  refine x_aload_n hP dX4_note_5 rfl ?_
  refine x_getI hP fX4_27 lay57 dX4_note_6 ?_
  obtain ⟨M2, hc1, hf⟩ := b_bd hf
  refine y_csv hP oX4_write lX4_30 [.ref n1, .ref 58, .int (M.1 57 4)] [] rfl rfl rfl dX4_note_9 (t_X4_write (d := d - 1) (by omega) hn1 lay58 hc1) (by omega) ?_
  refine x_aload_n hP dX4_note_12 rfl ?_
  refine x_aload_n hP dX4_note_13 rfl ?_
  refine x_getI hP fX4_27 lay57 dX4_note_14 ?_
  refine x_iconst hP dX4_note_17 (v := 1) rfl ?_
  refine x_iadd hP dX4_note_18 ?_
  refine x_bipush hP dX4_note_19 (v := 40) rfl ?_
  refine x_irem hP dX4_note_21 (by decide) ?_
  obtain ⟨M3, hM3, hf⟩ := b_lt hf
  refine y_putI hP fX4_27 lay57 hM3 dX4_note_22 ?_
  refine x_aload_n hP dX4_note_25 rfl ?_
  refine x_bipush hP dX4_note_26 (v := 40) rfl ?_
  refine x_aload_n hP dX4_note_28 rfl ?_
  refine x_getI hP fX4_20 lay57 dX4_note_29 ?_
  refine x_iconst hP dX4_note_32 (v := 1) rfl ?_
  refine x_iadd hP dX4_note_33 ?_
  refine y_min hP lX4_34 rfl hd1 dX4_note_34 ?_
  obtain ⟨v4, hv4, hf⟩ := b_lt hf
  refine y_nmI hv4 ?_
  obtain ⟨M5, hM5, hf⟩ := b_lt hf
  refine y_putI hP fX4_20 lay57 hM5 dX4_note_37 ?_
  cases hf
  exact x_vret hP rfl dX4_note_40
def f_X4_writeBack (a0 : Nat) (n0 : Nat) (x1 : Int32) (n2 : Nat) (M : Mem) : Option (Mem) :=
  lt (x1 * (38 : Int32) : Int32) fun v1 =>
  (ag M a0 n0 v1).bind fun v2 =>
  lt (sI M n2 1 v2) fun M3 =>
  (ag M3 a0 n0 (v1 + (1 : Int32))).bind fun v4 =>
  lt (sI M3 n2 2 v4) fun M5 =>
  (ag M5 a0 n0 (v1 + (2 : Int32))).bind fun v6 =>
  lt (sI M5 n2 3 v6) fun M7 =>
  (ag M7 a0 n0 (v1 + (3 : Int32))).bind fun v8 =>
  lt (sI M7 n2 4 v8) fun M9 =>
  lt (v1 + 4 : Int32) fun v10 =>
  (cp M9 a0 n0 (n2 + 1) 6 v10 (0 : Int32) (6 : Int32)).bind fun M11 =>
  (cp M11 a0 n0 (n2 + 2) 6 (v10 + (6 : Int32)) (0 : Int32) (6 : Int32)).bind fun M12 =>
  (cp M12 a0 n0 (n2 + 3) 6 (v10 + (12 : Int32)) (0 : Int32) (6 : Int32)).bind fun M13 =>
  (cp M13 a0 n0 (n2 + 4) 6 (v10 + (18 : Int32)) (0 : Int32) (6 : Int32)).bind fun M14 =>
  (cp M14 a0 n0 (n2 + 5) 5 (v10 + (24 : Int32)) (0 : Int32) (5 : Int32)).bind fun M15 =>
  (cp M15 a0 n0 (n2 + 6) 5 ((v10 + (24 : Int32)) + (5 : Int32)) (0 : Int32) (5 : Int32)).bind fun M16 =>
  some M16
set_option maxHeartbeats 1000000 in
set_option maxRecDepth 20000 in
theorem t_X4_writeBack {g : GG} {d : Nat} (hd : 2 ≤ d) {a0 : Nat} {n0 : Nat} (ha0 : LAY[a0]? = some (.inl (.int, n0))) {x1 : Int32} {n2 : Nat} (hn2 : isN n2) {M : Mem} {M' : Mem} (hf : f_X4_writeBack a0 n0 x1 n2 M = some M') : ExM g d iX4_writeBack [.ref a0, .int x1, .ref n2] LAY M (none, LAY, M') := by
  have hd1 : 1 ≤ d := by omega
  refine ExM.main pnX4 rfl (ls := [some (.ref a0), some (.int x1), some (.ref n2), none]) rfl ?_
  intro P hP
  rw [f_X4_writeBack] at hf
  refine x_iload_n hP dX4_writeBack_0 rfl ?_
  refine x_bipush hP dX4_writeBack_1 (v := 38) rfl ?_
  refine x_imul hP dX4_writeBack_3 ?_
  obtain ⟨v1, hv1, hf⟩ := b_lt hf
  refine y_nmI hv1 ?_
  refine x_istore_n hP (ls2 := [some (.ref a0), some (.int x1), some (.ref n2), some (.int v1)]) dX4_writeBack_4 rfl rfl rfl ?_
  refine x_aload_n hP dX4_writeBack_5 rfl ?_
  refine x_aload_n hP dX4_writeBack_6 rfl ?_
  refine x_iload_n hP dX4_writeBack_7 rfl ?_
  obtain ⟨v2, hiv2, hv2, hf⟩ := b_ag hf
  refine y_ald hP ha0 hiv2 hv2 dX4_writeBack_8 ?_
  obtain ⟨M3, hM3, hf⟩ := b_lt hf
  refine y_putI hP fX4_44 (layN hn2) hM3 dX4_writeBack_9 ?_
  refine x_aload_n hP dX4_writeBack_12 rfl ?_
  refine x_aload_n hP dX4_writeBack_13 rfl ?_
  refine x_iload_n hP dX4_writeBack_14 rfl ?_
  refine x_iconst hP dX4_writeBack_15 (v := 1) rfl ?_
  refine x_iadd hP dX4_writeBack_16 ?_
  obtain ⟨v4, hiv4, hv4, hf⟩ := b_ag hf
  refine y_ald hP ha0 hiv4 hv4 dX4_writeBack_17 ?_
  obtain ⟨M5, hM5, hf⟩ := b_lt hf
  refine y_putI hP fX4_47 (layN hn2) hM5 dX4_writeBack_18 ?_
  refine x_aload_n hP dX4_writeBack_21 rfl ?_
  refine x_aload_n hP dX4_writeBack_22 rfl ?_
  refine x_iload_n hP dX4_writeBack_23 rfl ?_
  refine x_iconst hP dX4_writeBack_24 (v := 2) rfl ?_
  refine x_iadd hP dX4_writeBack_25 ?_
  obtain ⟨v6, hiv6, hv6, hf⟩ := b_ag hf
  refine y_ald hP ha0 hiv6 hv6 dX4_writeBack_26 ?_
  obtain ⟨M7, hM7, hf⟩ := b_lt hf
  refine y_putI hP fX4_50 (layN hn2) hM7 dX4_writeBack_27 ?_
  refine x_aload_n hP dX4_writeBack_30 rfl ?_
  refine x_aload_n hP dX4_writeBack_31 rfl ?_
  refine x_iload_n hP dX4_writeBack_32 rfl ?_
  refine x_iconst hP dX4_writeBack_33 (v := 3) rfl ?_
  refine x_iadd hP dX4_writeBack_34 ?_
  obtain ⟨v8, hiv8, hv8, hf⟩ := b_ag hf
  refine y_ald hP ha0 hiv8 hv8 dX4_writeBack_35 ?_
  obtain ⟨M9, hM9, hf⟩ := b_lt hf
  refine y_putI hP fX4_53 (layN hn2) hM9 dX4_writeBack_36 ?_
  obtain ⟨v10, hv10, hf⟩ := b_lt hf
  refine x_iinc hP (v := v10) (ls2 := [some (.ref a0), some (.int x1), some (.ref n2), some (.int v10)]) dX4_writeBack_39 rfl (by rw [hv10]; rfl) rfl rfl ?_
  refine x_aload_n hP dX4_writeBack_42 rfl ?_
  refine x_iload_n hP dX4_writeBack_43 rfl ?_
  refine x_aload_n hP dX4_writeBack_44 rfl ?_
  refine x_getA hP fX4_56 (layN hn2) (r := n2 + 1) rfl dX4_writeBack_45 ?_
  refine x_iconst hP dX4_writeBack_48 (v := 0) rfl ?_
  refine x_bipush hP dX4_writeBack_49 (v := 6) rfl ?_
  obtain ⟨M11, hiM11, hM11, hf⟩ := b_cp hf
  refine y_cpy hP lX4_59 ha0 (layN_1 hn2) hiM11 hM11 rfl hd1 dX4_writeBack_51 ?_
  refine x_aload_n hP dX4_writeBack_54 rfl ?_
  refine x_iload_n hP dX4_writeBack_55 rfl ?_
  refine x_bipush hP dX4_writeBack_56 (v := 6) rfl ?_
  refine x_iadd hP dX4_writeBack_58 ?_
  refine x_aload_n hP dX4_writeBack_59 rfl ?_
  refine x_getA hP fX4_65 (layN hn2) (r := n2 + 2) rfl dX4_writeBack_60 ?_
  refine x_iconst hP dX4_writeBack_63 (v := 0) rfl ?_
  refine x_bipush hP dX4_writeBack_64 (v := 6) rfl ?_
  obtain ⟨M12, hiM12, hM12, hf⟩ := b_cp hf
  refine y_cpy hP lX4_59 ha0 (layN_2 hn2) hiM12 hM12 rfl hd1 dX4_writeBack_66 ?_
  refine x_aload_n hP dX4_writeBack_69 rfl ?_
  refine x_iload_n hP dX4_writeBack_70 rfl ?_
  refine x_bipush hP dX4_writeBack_71 (v := 12) rfl ?_
  refine x_iadd hP dX4_writeBack_73 ?_
  refine x_aload_n hP dX4_writeBack_74 rfl ?_
  refine x_getA hP fX4_68 (layN hn2) (r := n2 + 3) rfl dX4_writeBack_75 ?_
  refine x_iconst hP dX4_writeBack_78 (v := 0) rfl ?_
  refine x_bipush hP dX4_writeBack_79 (v := 6) rfl ?_
  obtain ⟨M13, hiM13, hM13, hf⟩ := b_cp hf
  refine y_cpy hP lX4_59 ha0 (layN_3 hn2) hiM13 hM13 rfl hd1 dX4_writeBack_81 ?_
  refine x_aload_n hP dX4_writeBack_84 rfl ?_
  refine x_iload_n hP dX4_writeBack_85 rfl ?_
  refine x_bipush hP dX4_writeBack_86 (v := 18) rfl ?_
  refine x_iadd hP dX4_writeBack_88 ?_
  refine x_aload_n hP dX4_writeBack_89 rfl ?_
  refine x_getA hP fX4_71 (layN hn2) (r := n2 + 4) rfl dX4_writeBack_90 ?_
  refine x_iconst hP dX4_writeBack_93 (v := 0) rfl ?_
  refine x_bipush hP dX4_writeBack_94 (v := 6) rfl ?_
  obtain ⟨M14, hiM14, hM14, hf⟩ := b_cp hf
  refine y_cpy hP lX4_59 ha0 (layN_4 hn2) hiM14 hM14 rfl hd1 dX4_writeBack_96 ?_
  refine x_aload_n hP dX4_writeBack_99 rfl ?_
  refine x_iload_n hP dX4_writeBack_100 rfl ?_
  refine x_bipush hP dX4_writeBack_101 (v := 24) rfl ?_
  refine x_iadd hP dX4_writeBack_103 ?_
  refine x_aload_n hP dX4_writeBack_104 rfl ?_
  refine x_getA hP fX4_74 (layN hn2) (r := n2 + 5) rfl dX4_writeBack_105 ?_
  refine x_iconst hP dX4_writeBack_108 (v := 0) rfl ?_
  refine x_iconst hP dX4_writeBack_109 (v := 5) rfl ?_
  obtain ⟨M15, hiM15, hM15, hf⟩ := b_cp hf
  refine y_cpy hP lX4_59 ha0 (layN_5 hn2) hiM15 hM15 rfl hd1 dX4_writeBack_110 ?_
  refine x_aload_n hP dX4_writeBack_113 rfl ?_
  refine x_iload_n hP dX4_writeBack_114 rfl ?_
  refine x_bipush hP dX4_writeBack_115 (v := 24) rfl ?_
  refine x_iadd hP dX4_writeBack_117 ?_
  refine x_iconst hP dX4_writeBack_118 (v := 5) rfl ?_
  refine x_iadd hP dX4_writeBack_119 ?_
  refine x_aload_n hP dX4_writeBack_120 rfl ?_
  refine x_getA hP fX4_77 (layN hn2) (r := n2 + 6) rfl dX4_writeBack_121 ?_
  refine x_iconst hP dX4_writeBack_124 (v := 0) rfl ?_
  refine x_iconst hP dX4_writeBack_125 (v := 5) rfl ?_
  obtain ⟨M16, hiM16, hM16, hf⟩ := b_cp hf
  refine y_cpy hP lX4_59 ha0 (layN_6 hn2) hiM16 hM16 rfl hd1 dX4_writeBack_126 ?_
  cases hf
  exact x_vret hP rfl dX4_writeBack_129
def f_X4_takeBack (n1 : Nat) (M : Mem) : Option (Int32 × Mem) :=
  if M.1 57 0 = 0 then
    some ((0 : Int32), M)
  else
    lt (sI M 57 0 ((M.1 57 0) - (1 : Int32))) fun M2 =>
    lt (sI M2 57 4 ((((M2.1 57 4) + (40 : Int32)) - (1 : Int32)) - (((M2.1 57 4) + (40 : Int32)) - (1 : Int32)) / (40 : Int32) * (40 : Int32))) fun M3 =>
    (f_X4_writeBack 58 1520 (M3.1 57 4) n1 M3).bind fun M5 =>
    some ((1 : Int32), M5)
set_option maxHeartbeats 1000000 in
set_option maxRecDepth 20000 in
theorem t_X4_takeBack {g : GG} {d : Nat} (hd : 3 ≤ d) {n1 : Nat} (hn1 : isN n1) {M : Mem} {r : Int32} {M' : Mem} (hf : f_X4_takeBack n1 M = some (r, M')) : ExM g d iX4_takeBack [.ref 57, .ref n1] LAY M (some (.int r), LAY, M') := by
  have hd1 : 1 ≤ d := by omega
  refine ExM.main pnX4 rfl (ls := [some (.ref 57), some (.ref n1)]) rfl ?_
  intro P hP
  rw [f_X4_takeBack] at hf
  refine x_aload_n hP dX4_takeBack_0 rfl ?_
  refine x_getI hP fX4_20 lay57 dX4_takeBack_1 ?_
  refine x_if_ne hP dX4_takeBack_4 (tgt := 9) (by decide) (fun c1 => ?_) (fun c1 => ?_)
  · replace hf := p_f c1 hf
    refine x_aload_n hP dX4_takeBack_9 rfl ?_
    refine x_dup hP dX4_takeBack_10 rfl ?_
    refine x_getI hP fX4_20 lay57 dX4_takeBack_11 ?_
    refine x_iconst hP dX4_takeBack_14 (v := 1) rfl ?_
    refine x_isub hP dX4_takeBack_15 ?_
    obtain ⟨M2, hM2, hf⟩ := b_lt hf
    refine y_putI hP fX4_20 lay57 hM2 dX4_takeBack_16 ?_
    refine x_aload_n hP dX4_takeBack_19 rfl ?_
    refine x_aload_n hP dX4_takeBack_20 rfl ?_
    refine x_getI hP fX4_27 lay57 dX4_takeBack_21 ?_
    refine x_bipush hP dX4_takeBack_24 (v := 40) rfl ?_
    refine x_iadd hP dX4_takeBack_26 ?_
    refine x_iconst hP dX4_takeBack_27 (v := 1) rfl ?_
    refine x_isub hP dX4_takeBack_28 ?_
    refine x_bipush hP dX4_takeBack_29 (v := 40) rfl ?_
    refine x_irem hP dX4_takeBack_31 (by decide) ?_
    obtain ⟨M3, hM3, hf⟩ := b_lt hf
    refine y_putI hP fX4_27 lay57 hM3 dX4_takeBack_32 ?_
    refine x_aload_n hP dX4_takeBack_35 rfl ?_
    refine x_getA hP fX4_13 lay57 (r := 58) rfl dX4_takeBack_36 ?_
    refine x_aload_n hP dX4_takeBack_39 rfl ?_
    refine x_getI hP fX4_27 lay57 dX4_takeBack_40 ?_
    refine x_aload_n hP dX4_takeBack_43 rfl ?_
    obtain ⟨M5, hc4, hf⟩ := b_bd hf
    refine y_csv hP oX4_writeBack lX4_40 [.ref 58, .int (M3.1 57 4), .ref n1] [] rfl rfl rfl dX4_takeBack_44 (t_X4_writeBack (d := d - 1) (by omega) lay58 hn1 hc4) (by omega) ?_
    refine x_iconst hP dX4_takeBack_47 (v := 1) rfl ?_
    cases hf
    exact x_zret hP rfl (Or.inr rfl) dX4_takeBack_48
  · replace hf := p_t c1 hf
    refine x_iconst hP dX4_takeBack_7 (v := 0) rfl ?_
    cases hf
    exact x_zret hP rfl (Or.inl rfl) dX4_takeBack_8
def f_X4_keepIn (x1 : Int32) (n2 : Nat) (M : Mem) : Option (Int32 × Mem) :=
  if x1 < 0 then
    some ((0 : Int32), M)
  else
    if x1 < (3 : Int32) then
      (f_X4_write n2 59 114 x1 M).bind fun M4 =>
      lt (sI M4 57 1 ((M4.1 57 1) ||| ((1 : Int32) <<< (x1 &&& 31)))) fun M5 =>
      some ((1 : Int32), M5)
    else
      some ((0 : Int32), M)
set_option maxHeartbeats 1000000 in
set_option maxRecDepth 20000 in
theorem t_X4_keepIn {g : GG} {d : Nat} (hd : 3 ≤ d) {x1 : Int32} {n2 : Nat} (hn2 : isN n2) {M : Mem} {r : Int32} {M' : Mem} (hf : f_X4_keepIn x1 n2 M = some (r, M')) : ExM g d iX4_keepIn [.ref 57, .int x1, .ref n2] LAY M (some (.int r), LAY, M') := by
  have hd1 : 1 ≤ d := by omega
  refine ExM.main pnX4 rfl (ls := [some (.ref 57), some (.int x1), some (.ref n2)]) rfl ?_
  intro P hP
  rw [f_X4_keepIn] at hf
  refine x_iload_n hP dX4_keepIn_0 rfl ?_
  refine x_if_lt hP dX4_keepIn_1 (tgt := 9) (by decide) (fun c1 => ?_) (fun c1 => ?_)
  · replace hf := p_t c1 hf
    refine x_iconst hP dX4_keepIn_9 (v := 0) rfl ?_
    cases hf
    exact x_zret hP rfl (Or.inl rfl) dX4_keepIn_10
  · replace hf := p_f c1 hf
    refine x_iload_n hP dX4_keepIn_4 rfl ?_
    refine x_iconst hP dX4_keepIn_5 (v := 3) rfl ?_
    refine x_icmp_lt hP dX4_keepIn_6 (tgt := 11) (by decide) (fun c2 => ?_) (fun c2 => ?_)
    · replace hf := p_t c2 hf
      refine x_aload_n hP dX4_keepIn_11 rfl ?_
      refine x_aload_n hP dX4_keepIn_12 rfl ?_
      refine x_getA hP fX4_17 lay57 (r := 59) rfl dX4_keepIn_13 ?_
      refine x_iload_n hP dX4_keepIn_16 rfl ?_
      obtain ⟨M4, hc3, hf⟩ := b_bd hf
      refine y_csv hP oX4_write lX4_30 [.ref n2, .ref 59, .int x1] [] rfl rfl rfl dX4_keepIn_17 (t_X4_write (d := d - 1) (by omega) hn2 lay59 hc3) (by omega) ?_
      refine x_aload_n hP dX4_keepIn_20 rfl ?_
      refine x_dup hP dX4_keepIn_21 rfl ?_
      refine x_getI hP fX4_24 lay57 dX4_keepIn_22 ?_
      refine x_iconst hP dX4_keepIn_25 (v := 1) rfl ?_
      refine x_iload_n hP dX4_keepIn_26 rfl ?_
      refine x_ishl hP dX4_keepIn_27 ?_
      refine x_ior hP dX4_keepIn_28 ?_
      obtain ⟨M5, hM5, hf⟩ := b_lt hf
      refine y_putI hP fX4_24 lay57 hM5 dX4_keepIn_29 ?_
      refine x_iconst hP dX4_keepIn_32 (v := 1) rfl ?_
      cases hf
      exact x_zret hP rfl (Or.inr rfl) dX4_keepIn_33
    · replace hf := p_f c2 hf
      refine x_iconst hP dX4_keepIn_9 (v := 0) rfl ?_
      cases hf
      exact x_zret hP rfl (Or.inl rfl) dX4_keepIn_10
def f_X4_takeFrom (x1 : Int32) (n2 : Nat) (M : Mem) : Option (Int32 × Mem) :=
  if x1 < 0 then
    some ((0 : Int32), M)
  else
    if (3 : Int32) ≤ x1 then
      some ((0 : Int32), M)
    else
      if ((M.1 57 1) >>> (x1 &&& 31)) &&& (1 : Int32) = 0 then
        some ((0 : Int32), M)
      else
        (f_X4_writeBack 59 114 x1 n2 M).bind fun M5 =>
        lt (sI M5 57 0 (0 : Int32)) fun M6 =>
        some ((1 : Int32), M6)
set_option maxHeartbeats 1000000 in
set_option maxRecDepth 20000 in
theorem t_X4_takeFrom {g : GG} {d : Nat} (hd : 3 ≤ d) {x1 : Int32} {n2 : Nat} (hn2 : isN n2) {M : Mem} {r : Int32} {M' : Mem} (hf : f_X4_takeFrom x1 n2 M = some (r, M')) : ExM g d iX4_takeFrom [.ref 57, .int x1, .ref n2] LAY M (some (.int r), LAY, M') := by
  have hd1 : 1 ≤ d := by omega
  refine ExM.main pnX4 rfl (ls := [some (.ref 57), some (.int x1), some (.ref n2)]) rfl ?_
  intro P hP
  rw [f_X4_takeFrom] at hf
  refine x_iload_n hP dX4_takeFrom_0 rfl ?_
  refine x_if_lt hP dX4_takeFrom_1 (tgt := 20) (by decide) (fun c1 => ?_) (fun c1 => ?_)
  · replace hf := p_t c1 hf
    refine x_iconst hP dX4_takeFrom_20 (v := 0) rfl ?_
    cases hf
    exact x_zret hP rfl (Or.inl rfl) dX4_takeFrom_21
  · replace hf := p_f c1 hf
    refine x_iload_n hP dX4_takeFrom_4 rfl ?_
    refine x_iconst hP dX4_takeFrom_5 (v := 3) rfl ?_
    refine x_icmp_ge hP dX4_takeFrom_6 (tgt := 20) (by decide) (fun c2 => ?_) (fun c2 => ?_)
    · replace hf := p_t c2 hf
      refine x_iconst hP dX4_takeFrom_20 (v := 0) rfl ?_
      cases hf
      exact x_zret hP rfl (Or.inl rfl) dX4_takeFrom_21
    · replace hf := p_f c2 hf
      refine x_aload_n hP dX4_takeFrom_9 rfl ?_
      refine x_getI hP fX4_24 lay57 dX4_takeFrom_10 ?_
      refine x_iload_n hP dX4_takeFrom_13 rfl ?_
      refine x_ishr hP dX4_takeFrom_14 ?_
      refine x_iconst hP dX4_takeFrom_15 (v := 1) rfl ?_
      refine x_iand hP dX4_takeFrom_16 ?_
      refine x_if_ne hP dX4_takeFrom_17 (tgt := 22) (by decide) (fun c3 => ?_) (fun c3 => ?_)
      · replace hf := p_f c3 hf
        refine x_aload_n hP dX4_takeFrom_22 rfl ?_
        refine x_getA hP fX4_17 lay57 (r := 59) rfl dX4_takeFrom_23 ?_
        refine x_iload_n hP dX4_takeFrom_26 rfl ?_
        refine x_aload_n hP dX4_takeFrom_27 rfl ?_
        obtain ⟨M5, hc4, hf⟩ := b_bd hf
        refine y_csv hP oX4_writeBack lX4_40 [.ref 59, .int x1, .ref n2] [] rfl rfl rfl dX4_takeFrom_28 (t_X4_writeBack (d := d - 1) (by omega) lay59 hn2 hc4) (by omega) ?_
        refine x_aload_n hP dX4_takeFrom_31 rfl ?_
        refine x_iconst hP dX4_takeFrom_32 (v := 0) rfl ?_
        obtain ⟨M6, hM6, hf⟩ := b_lt hf
        refine y_putI hP fX4_20 lay57 hM6 dX4_takeFrom_33 ?_
        refine x_iconst hP dX4_takeFrom_36 (v := 1) rfl ?_
        cases hf
        exact x_zret hP rfl (Or.inr rfl) dX4_takeFrom_37
      · replace hf := p_t c3 hf
        refine x_iconst hP dX4_takeFrom_20 (v := 0) rfl ?_
        cases hf
        exact x_zret hP rfl (Or.inl rfl) dX4_takeFrom_21

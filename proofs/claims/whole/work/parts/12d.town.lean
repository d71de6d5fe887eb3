-- by program: wip/whole/gen/build_parts.py
def f_X9_emit (t0 : Nat) (x1 : Int32) (x2 : Int32) (M : Mem) : Option (Mem) :=
  if (407 : Int32) ≤ M.1 t0 9 then
    some M
  else
    (pg M (t0 + 9) 407 (M.1 t0 9) ((x1 <<< ((14 : Int32) &&& 31)) ||| x2)).bind fun M2 =>
    lt (sI M2 t0 9 ((M2.1 t0 9) + (1 : Int32))) fun M3 =>
    some M3
set_option maxHeartbeats 1000000 in
set_option maxRecDepth 20000 in
theorem t_X9_emit {g : GG} {d : Nat} (hd : 1 ≤ d) {t0 : Nat} (ht0 : isT t0) {x1 : Int32} {x2 : Int32} {M : Mem} {M' : Mem} (hf : f_X9_emit t0 x1 x2 M = some M') : ExM g d iX9_emit [.ref t0, .int x1, .int x2] LAY M (none, LAY, M') := by
  have hd1 : 1 ≤ d := by omega
  refine ExM.main pnX9 rfl (ls := [some (.ref t0), some (.int x1), some (.int x2)]) rfl ?_
  intro P hP
  rw [f_X9_emit] at hf
  refine x_aload_n hP dX9_emit_0 rfl ?_
  refine x_getI hP fX9_66 (layT ht0) dX9_emit_1 ?_
  refine x_sipush hP dX9_emit_4 (v := 407) rfl ?_
  refine x_icmp_ge hP dX9_emit_7 (tgt := 35) (by decide) (fun c1 => ?_) (fun c1 => ?_)
  · replace hf := p_t c1 hf
    cases hf
    exact x_vret hP rfl dX9_emit_35
  · replace hf := p_f c1 hf
    refine x_aload_n hP dX9_emit_10 rfl ?_
    refine x_getA hP fX9_38 (layT ht0) (r := t0 + 9) rfl dX9_emit_11 ?_
    refine x_aload_n hP dX9_emit_14 rfl ?_
    refine x_getI hP fX9_66 (layT ht0) dX9_emit_15 ?_
    refine x_iload_n hP dX9_emit_18 rfl ?_
    refine x_bipush hP dX9_emit_19 (v := 14) rfl ?_
    refine x_ishl hP dX9_emit_21 ?_
    refine x_iload_n hP dX9_emit_22 rfl ?_
    refine x_ior hP dX9_emit_23 ?_
    obtain ⟨M2, hiM2, hM2, hf⟩ := b_pg hf
    refine y_ast hP (layT_9 ht0) hiM2 hM2 dX9_emit_24 ?_
    refine x_aload_n hP dX9_emit_25 rfl ?_
    refine x_dup hP dX9_emit_26 rfl ?_
    refine x_getI hP fX9_66 (layT ht0) dX9_emit_27 ?_
    refine x_iconst hP dX9_emit_30 (v := 1) rfl ?_
    refine x_iadd hP dX9_emit_31 ?_
    obtain ⟨M3, hM3, hf⟩ := b_lt hf
    refine y_putI hP fX9_66 (layT ht0) hM3 dX9_emit_32 ?_
    cases hf
    exact x_vret hP rfl dX9_emit_35
set_option maxHeartbeats 1000000 in
set_option maxRecDepth 20000 in
theorem u_X9_emit {g : GG} {L : List Lay} {d : Nat} (hd : 1 ≤ d) {t0 : Nat} (ht0 : isT t0) (hA : ∀ (id : Nat) (y : Lay), LAY[id]? = some y → t0 ≤ id ∧ id < t0 + 10 → L[id]? = some y) {x1 : Int32} {x2 : Int32} {M : Mem} {M' : Mem} (hf : f_X9_emit t0 x1 x2 M = some M') : ExM g d iX9_emit [.ref t0, .int x1, .int x2] L M (none, L, M') := by
  have hd1 : 1 ≤ d := by omega
  refine ExM.main pnX9 rfl (ls := [some (.ref t0), some (.int x1), some (.int x2)]) rfl ?_
  intro P hP
  rw [f_X9_emit] at hf
  refine x_aload_n hP dX9_emit_0 rfl ?_
  refine x_getI hP fX9_66 (hA _ _ (layT ht0) (by omega)) dX9_emit_1 ?_
  refine x_sipush hP dX9_emit_4 (v := 407) rfl ?_
  refine x_icmp_ge hP dX9_emit_7 (tgt := 35) (by decide) (fun c1 => ?_) (fun c1 => ?_)
  · replace hf := p_t c1 hf
    cases hf
    exact x_vret hP rfl dX9_emit_35
  · replace hf := p_f c1 hf
    refine x_aload_n hP dX9_emit_10 rfl ?_
    refine x_getA hP fX9_38 (hA _ _ (layT ht0) (by omega)) (r := t0 + 9) rfl dX9_emit_11 ?_
    refine x_aload_n hP dX9_emit_14 rfl ?_
    refine x_getI hP fX9_66 (hA _ _ (layT ht0) (by omega)) dX9_emit_15 ?_
    refine x_iload_n hP dX9_emit_18 rfl ?_
    refine x_bipush hP dX9_emit_19 (v := 14) rfl ?_
    refine x_ishl hP dX9_emit_21 ?_
    refine x_iload_n hP dX9_emit_22 rfl ?_
    refine x_ior hP dX9_emit_23 ?_
    obtain ⟨M2, hiM2, hM2, hf⟩ := b_pg hf
    refine y_ast hP (hA _ _ (layT_9 ht0) (by omega)) hiM2 hM2 dX9_emit_24 ?_
    refine x_aload_n hP dX9_emit_25 rfl ?_
    refine x_dup hP dX9_emit_26 rfl ?_
    refine x_getI hP fX9_66 (hA _ _ (layT ht0) (by omega)) dX9_emit_27 ?_
    refine x_iconst hP dX9_emit_30 (v := 1) rfl ?_
    refine x_iadd hP dX9_emit_31 ?_
    obtain ⟨M3, hM3, hf⟩ := b_lt hf
    refine y_putI hP fX9_66 (hA _ _ (layT ht0) (by omega)) hM3 dX9_emit_32 ?_
    cases hf
    exact x_vret hP rfl dX9_emit_35
def f_X9_clear (t0 : Nat) (M : Mem) : Option (Mem) :=
  lt (sI M t0 10 (0 : Int32)) fun M1 =>
  lt (sI M1 t0 11 (0 : Int32)) fun M2 =>
  lt (sI M2 t0 12 (0 : Int32)) fun M3 =>
  lt (sI M3 t0 13 (0 : Int32)) fun M4 =>
  lt (sI M4 t0 14 (0 : Int32)) fun M5 =>
  lt (sI M5 t0 15 (0 : Int32)) fun M6 =>
  lt (sI M6 t0 16 (0 : Int32)) fun M7 =>
  lt (sI M7 t0 9 (0 : Int32)) fun M8 =>
  (pg M8 (t0 + 8) 4 (0 : Int32) (M8.1 t0 9)).bind fun M9 =>
  (f_X9_emit t0 (1 : Int32) (0 : Int32) M9).bind fun M11 =>
  (f_X9_emit t0 (3 : Int32) (0 : Int32) M11).bind fun M13 =>
  (pg M13 (t0 + 8) 4 (1 : Int32) (M13.1 t0 9)).bind fun M14 =>
  (f_X9_emit t0 (0 : Int32) (1 : Int32) M14).bind fun M16 =>
  (f_X9_emit t0 (3 : Int32) (0 : Int32) M16).bind fun M18 =>
  (pg M18 (t0 + 8) 4 (2 : Int32) (M18.1 t0 9)).bind fun M19 =>
  (pg M19 (t0 + 8) 4 (3 : Int32) (M19.1 t0 9)).bind fun M20 =>
  (f_X9_emit t0 (0 : Int32) (0 : Int32) M20).bind fun M22 =>
  (f_X9_emit t0 (3 : Int32) (0 : Int32) M22).bind fun M24 =>
  some M24
set_option maxHeartbeats 1000000 in
set_option maxRecDepth 20000 in
theorem t_X9_clear {g : GG} {d : Nat} (hd : 2 ≤ d) {t0 : Nat} (ht0 : isT t0) {M : Mem} {M' : Mem} (hf : f_X9_clear t0 M = some M') : ExM g d iX9_clear [.ref t0] LAY M (none, LAY, M') := by
  have hd1 : 1 ≤ d := by omega
  refine ExM.main pnX9 rfl (ls := [some (.ref t0)]) rfl ?_
  intro P hP
  rw [f_X9_clear] at hf
  refine x_aload_n hP dX9_clear_0 rfl ?_
  refine x_iconst hP dX9_clear_1 (v := 0) rfl ?_
  obtain ⟨M1, hM1, hf⟩ := b_lt hf
  refine y_putI hP fX9_44 (layT ht0) hM1 dX9_clear_2 ?_
  refine x_aload_n hP dX9_clear_5 rfl ?_
  refine x_iconst hP dX9_clear_6 (v := 0) rfl ?_
  obtain ⟨M2, hM2, hf⟩ := b_lt hf
  refine y_putI hP fX9_48 (layT ht0) hM2 dX9_clear_7 ?_
  refine x_aload_n hP dX9_clear_10 rfl ?_
  refine x_iconst hP dX9_clear_11 (v := 0) rfl ?_
  obtain ⟨M3, hM3, hf⟩ := b_lt hf
  refine y_putI hP fX9_51 (layT ht0) hM3 dX9_clear_12 ?_
  refine x_aload_n hP dX9_clear_15 rfl ?_
  refine x_iconst hP dX9_clear_16 (v := 0) rfl ?_
  obtain ⟨M4, hM4, hf⟩ := b_lt hf
  refine y_putI hP fX9_54 (layT ht0) hM4 dX9_clear_17 ?_
  refine x_aload_n hP dX9_clear_20 rfl ?_
  refine x_iconst hP dX9_clear_21 (v := 0) rfl ?_
  obtain ⟨M5, hM5, hf⟩ := b_lt hf
  refine y_putI hP fX9_57 (layT ht0) hM5 dX9_clear_22 ?_
  refine x_aload_n hP dX9_clear_25 rfl ?_
  refine x_iconst hP dX9_clear_26 (v := 0) rfl ?_
  obtain ⟨M6, hM6, hf⟩ := b_lt hf
  refine y_putI hP fX9_60 (layT ht0) hM6 dX9_clear_27 ?_
  refine x_aload_n hP dX9_clear_30 rfl ?_
  refine x_iconst hP dX9_clear_31 (v := 0) rfl ?_
  obtain ⟨M7, hM7, hf⟩ := b_lt hf
  refine y_putI hP fX9_63 (layT ht0) hM7 dX9_clear_32 ?_
  refine x_aload_n hP dX9_clear_35 rfl ?_
  refine x_iconst hP dX9_clear_36 (v := 0) rfl ?_
  obtain ⟨M8, hM8, hf⟩ := b_lt hf
  refine y_putI hP fX9_66 (layT ht0) hM8 dX9_clear_37 ?_
  refine x_aload_n hP dX9_clear_40 rfl ?_
  refine x_getA hP fX9_35 (layT ht0) (r := t0 + 8) rfl dX9_clear_41 ?_
  refine x_iconst hP dX9_clear_44 (v := 0) rfl ?_
  refine x_aload_n hP dX9_clear_45 rfl ?_
  refine x_getI hP fX9_66 (layT ht0) dX9_clear_46 ?_
  obtain ⟨M9, hiM9, hM9, hf⟩ := b_pg hf
  refine y_ast hP (layT_8 ht0) hiM9 hM9 dX9_clear_49 ?_
  refine x_aload_n hP dX9_clear_50 rfl ?_
  refine x_iconst hP dX9_clear_51 (v := 1) rfl ?_
  refine x_iconst hP dX9_clear_52 (v := 0) rfl ?_
  obtain ⟨M11, hc10, hf⟩ := b_bd hf
  refine y_cvv hP oX9_emit lX9_71 [.int (1 : Int32), .int (0 : Int32)] [] rfl rfl rfl (layT ht0) dX9_clear_53 (t_X9_emit (d := d - 1) (by omega) ht0 hc10) (by omega) ?_
  refine x_aload_n hP dX9_clear_56 rfl ?_
  refine x_iconst hP dX9_clear_57 (v := 3) rfl ?_
  refine x_iconst hP dX9_clear_58 (v := 0) rfl ?_
  obtain ⟨M13, hc12, hf⟩ := b_bd hf
  refine y_cvv hP oX9_emit lX9_71 [.int (3 : Int32), .int (0 : Int32)] [] rfl rfl rfl (layT ht0) dX9_clear_59 (t_X9_emit (d := d - 1) (by omega) ht0 hc12) (by omega) ?_
  refine x_aload_n hP dX9_clear_62 rfl ?_
  refine x_getA hP fX9_35 (layT ht0) (r := t0 + 8) rfl dX9_clear_63 ?_
  refine x_iconst hP dX9_clear_66 (v := 1) rfl ?_
  refine x_aload_n hP dX9_clear_67 rfl ?_
  refine x_getI hP fX9_66 (layT ht0) dX9_clear_68 ?_
  obtain ⟨M14, hiM14, hM14, hf⟩ := b_pg hf
  refine y_ast hP (layT_8 ht0) hiM14 hM14 dX9_clear_71 ?_
  refine x_aload_n hP dX9_clear_72 rfl ?_
  refine x_iconst hP dX9_clear_73 (v := 0) rfl ?_
  refine x_iconst hP dX9_clear_74 (v := 1) rfl ?_
  obtain ⟨M16, hc15, hf⟩ := b_bd hf
  refine y_cvv hP oX9_emit lX9_71 [.int (0 : Int32), .int (1 : Int32)] [] rfl rfl rfl (layT ht0) dX9_clear_75 (t_X9_emit (d := d - 1) (by omega) ht0 hc15) (by omega) ?_
  refine x_aload_n hP dX9_clear_78 rfl ?_
  refine x_iconst hP dX9_clear_79 (v := 3) rfl ?_
  refine x_iconst hP dX9_clear_80 (v := 0) rfl ?_
  obtain ⟨M18, hc17, hf⟩ := b_bd hf
  refine y_cvv hP oX9_emit lX9_71 [.int (3 : Int32), .int (0 : Int32)] [] rfl rfl rfl (layT ht0) dX9_clear_81 (t_X9_emit (d := d - 1) (by omega) ht0 hc17) (by omega) ?_
  refine x_aload_n hP dX9_clear_84 rfl ?_
  refine x_getA hP fX9_35 (layT ht0) (r := t0 + 8) rfl dX9_clear_85 ?_
  refine x_iconst hP dX9_clear_88 (v := 2) rfl ?_
  refine x_aload_n hP dX9_clear_89 rfl ?_
  refine x_getI hP fX9_66 (layT ht0) dX9_clear_90 ?_
  obtain ⟨M19, hiM19, hM19, hf⟩ := b_pg hf
  refine y_ast hP (layT_8 ht0) hiM19 hM19 dX9_clear_93 ?_
  refine x_aload_n hP dX9_clear_94 rfl ?_
  refine x_getA hP fX9_35 (layT ht0) (r := t0 + 8) rfl dX9_clear_95 ?_
  refine x_iconst hP dX9_clear_98 (v := 3) rfl ?_
  refine x_aload_n hP dX9_clear_99 rfl ?_
  refine x_getI hP fX9_66 (layT ht0) dX9_clear_100 ?_
  obtain ⟨M20, hiM20, hM20, hf⟩ := b_pg hf
  refine y_ast hP (layT_8 ht0) hiM20 hM20 dX9_clear_103 ?_
  refine x_aload_n hP dX9_clear_104 rfl ?_
  refine x_iconst hP dX9_clear_105 (v := 0) rfl ?_
  refine x_iconst hP dX9_clear_106 (v := 0) rfl ?_
  obtain ⟨M22, hc21, hf⟩ := b_bd hf
  refine y_cvv hP oX9_emit lX9_71 [.int (0 : Int32), .int (0 : Int32)] [] rfl rfl rfl (layT ht0) dX9_clear_107 (t_X9_emit (d := d - 1) (by omega) ht0 hc21) (by omega) ?_
  refine x_aload_n hP dX9_clear_110 rfl ?_
  refine x_iconst hP dX9_clear_111 (v := 3) rfl ?_
  refine x_iconst hP dX9_clear_112 (v := 0) rfl ?_
  obtain ⟨M24, hc23, hf⟩ := b_bd hf
  refine y_cvv hP oX9_emit lX9_71 [.int (3 : Int32), .int (0 : Int32)] [] rfl rfl rfl (layT ht0) dX9_clear_113 (t_X9_emit (d := d - 1) (by omega) ht0 hc23) (by omega) ?_
  cases hf
  exact x_vret hP rfl dX9_clear_116
set_option maxHeartbeats 1000000 in
set_option maxRecDepth 20000 in
theorem u_X9_clear {g : GG} {L : List Lay} {d : Nat} (hd : 2 ≤ d) {t0 : Nat} (ht0 : isT t0) (hA : ∀ (id : Nat) (y : Lay), LAY[id]? = some y → t0 ≤ id ∧ id < t0 + 10 → L[id]? = some y) {M : Mem} {M' : Mem} (hf : f_X9_clear t0 M = some M') : ExM g d iX9_clear [.ref t0] L M (none, L, M') := by
  have hd1 : 1 ≤ d := by omega
  refine ExM.main pnX9 rfl (ls := [some (.ref t0)]) rfl ?_
  intro P hP
  rw [f_X9_clear] at hf
  refine x_aload_n hP dX9_clear_0 rfl ?_
  refine x_iconst hP dX9_clear_1 (v := 0) rfl ?_
  obtain ⟨M1, hM1, hf⟩ := b_lt hf
  refine y_putI hP fX9_44 (hA _ _ (layT ht0) (by omega)) hM1 dX9_clear_2 ?_
  refine x_aload_n hP dX9_clear_5 rfl ?_
  refine x_iconst hP dX9_clear_6 (v := 0) rfl ?_
  obtain ⟨M2, hM2, hf⟩ := b_lt hf
  refine y_putI hP fX9_48 (hA _ _ (layT ht0) (by omega)) hM2 dX9_clear_7 ?_
  refine x_aload_n hP dX9_clear_10 rfl ?_
  refine x_iconst hP dX9_clear_11 (v := 0) rfl ?_
  obtain ⟨M3, hM3, hf⟩ := b_lt hf
  refine y_putI hP fX9_51 (hA _ _ (layT ht0) (by omega)) hM3 dX9_clear_12 ?_
  refine x_aload_n hP dX9_clear_15 rfl ?_
  refine x_iconst hP dX9_clear_16 (v := 0) rfl ?_
  obtain ⟨M4, hM4, hf⟩ := b_lt hf
  refine y_putI hP fX9_54 (hA _ _ (layT ht0) (by omega)) hM4 dX9_clear_17 ?_
  refine x_aload_n hP dX9_clear_20 rfl ?_
  refine x_iconst hP dX9_clear_21 (v := 0) rfl ?_
  obtain ⟨M5, hM5, hf⟩ := b_lt hf
  refine y_putI hP fX9_57 (hA _ _ (layT ht0) (by omega)) hM5 dX9_clear_22 ?_
  refine x_aload_n hP dX9_clear_25 rfl ?_
  refine x_iconst hP dX9_clear_26 (v := 0) rfl ?_
  obtain ⟨M6, hM6, hf⟩ := b_lt hf
  refine y_putI hP fX9_60 (hA _ _ (layT ht0) (by omega)) hM6 dX9_clear_27 ?_
  refine x_aload_n hP dX9_clear_30 rfl ?_
  refine x_iconst hP dX9_clear_31 (v := 0) rfl ?_
  obtain ⟨M7, hM7, hf⟩ := b_lt hf
  refine y_putI hP fX9_63 (hA _ _ (layT ht0) (by omega)) hM7 dX9_clear_32 ?_
  refine x_aload_n hP dX9_clear_35 rfl ?_
  refine x_iconst hP dX9_clear_36 (v := 0) rfl ?_
  obtain ⟨M8, hM8, hf⟩ := b_lt hf
  refine y_putI hP fX9_66 (hA _ _ (layT ht0) (by omega)) hM8 dX9_clear_37 ?_
  refine x_aload_n hP dX9_clear_40 rfl ?_
  refine x_getA hP fX9_35 (hA _ _ (layT ht0) (by omega)) (r := t0 + 8) rfl dX9_clear_41 ?_
  refine x_iconst hP dX9_clear_44 (v := 0) rfl ?_
  refine x_aload_n hP dX9_clear_45 rfl ?_
  refine x_getI hP fX9_66 (hA _ _ (layT ht0) (by omega)) dX9_clear_46 ?_
  obtain ⟨M9, hiM9, hM9, hf⟩ := b_pg hf
  refine y_ast hP (hA _ _ (layT_8 ht0) (by omega)) hiM9 hM9 dX9_clear_49 ?_
  refine x_aload_n hP dX9_clear_50 rfl ?_
  refine x_iconst hP dX9_clear_51 (v := 1) rfl ?_
  refine x_iconst hP dX9_clear_52 (v := 0) rfl ?_
  obtain ⟨M11, hc10, hf⟩ := b_bd hf
  refine y_cvv hP oX9_emit lX9_71 [.int (1 : Int32), .int (0 : Int32)] [] rfl rfl rfl (hA _ _ (layT ht0) (by omega)) dX9_clear_53 (u_X9_emit (d := d - 1) (by omega) ht0 hA hc10) (by omega) ?_
  refine x_aload_n hP dX9_clear_56 rfl ?_
  refine x_iconst hP dX9_clear_57 (v := 3) rfl ?_
  refine x_iconst hP dX9_clear_58 (v := 0) rfl ?_
  obtain ⟨M13, hc12, hf⟩ := b_bd hf
  refine y_cvv hP oX9_emit lX9_71 [.int (3 : Int32), .int (0 : Int32)] [] rfl rfl rfl (hA _ _ (layT ht0) (by omega)) dX9_clear_59 (u_X9_emit (d := d - 1) (by omega) ht0 hA hc12) (by omega) ?_
  refine x_aload_n hP dX9_clear_62 rfl ?_
  refine x_getA hP fX9_35 (hA _ _ (layT ht0) (by omega)) (r := t0 + 8) rfl dX9_clear_63 ?_
  refine x_iconst hP dX9_clear_66 (v := 1) rfl ?_
  refine x_aload_n hP dX9_clear_67 rfl ?_
  refine x_getI hP fX9_66 (hA _ _ (layT ht0) (by omega)) dX9_clear_68 ?_
  obtain ⟨M14, hiM14, hM14, hf⟩ := b_pg hf
  refine y_ast hP (hA _ _ (layT_8 ht0) (by omega)) hiM14 hM14 dX9_clear_71 ?_
  refine x_aload_n hP dX9_clear_72 rfl ?_
  refine x_iconst hP dX9_clear_73 (v := 0) rfl ?_
  refine x_iconst hP dX9_clear_74 (v := 1) rfl ?_
  obtain ⟨M16, hc15, hf⟩ := b_bd hf
  refine y_cvv hP oX9_emit lX9_71 [.int (0 : Int32), .int (1 : Int32)] [] rfl rfl rfl (hA _ _ (layT ht0) (by omega)) dX9_clear_75 (u_X9_emit (d := d - 1) (by omega) ht0 hA hc15) (by omega) ?_
  refine x_aload_n hP dX9_clear_78 rfl ?_
  refine x_iconst hP dX9_clear_79 (v := 3) rfl ?_
  refine x_iconst hP dX9_clear_80 (v := 0) rfl ?_
  obtain ⟨M18, hc17, hf⟩ := b_bd hf
  refine y_cvv hP oX9_emit lX9_71 [.int (3 : Int32), .int (0 : Int32)] [] rfl rfl rfl (hA _ _ (layT ht0) (by omega)) dX9_clear_81 (u_X9_emit (d := d - 1) (by omega) ht0 hA hc17) (by omega) ?_
  refine x_aload_n hP dX9_clear_84 rfl ?_
  refine x_getA hP fX9_35 (hA _ _ (layT ht0) (by omega)) (r := t0 + 8) rfl dX9_clear_85 ?_
  refine x_iconst hP dX9_clear_88 (v := 2) rfl ?_
  refine x_aload_n hP dX9_clear_89 rfl ?_
  refine x_getI hP fX9_66 (hA _ _ (layT ht0) (by omega)) dX9_clear_90 ?_
  obtain ⟨M19, hiM19, hM19, hf⟩ := b_pg hf
  refine y_ast hP (hA _ _ (layT_8 ht0) (by omega)) hiM19 hM19 dX9_clear_93 ?_
  refine x_aload_n hP dX9_clear_94 rfl ?_
  refine x_getA hP fX9_35 (hA _ _ (layT ht0) (by omega)) (r := t0 + 8) rfl dX9_clear_95 ?_
  refine x_iconst hP dX9_clear_98 (v := 3) rfl ?_
  refine x_aload_n hP dX9_clear_99 rfl ?_
  refine x_getI hP fX9_66 (hA _ _ (layT ht0) (by omega)) dX9_clear_100 ?_
  obtain ⟨M20, hiM20, hM20, hf⟩ := b_pg hf
  refine y_ast hP (hA _ _ (layT_8 ht0) (by omega)) hiM20 hM20 dX9_clear_103 ?_
  refine x_aload_n hP dX9_clear_104 rfl ?_
  refine x_iconst hP dX9_clear_105 (v := 0) rfl ?_
  refine x_iconst hP dX9_clear_106 (v := 0) rfl ?_
  obtain ⟨M22, hc21, hf⟩ := b_bd hf
  refine y_cvv hP oX9_emit lX9_71 [.int (0 : Int32), .int (0 : Int32)] [] rfl rfl rfl (hA _ _ (layT ht0) (by omega)) dX9_clear_107 (u_X9_emit (d := d - 1) (by omega) ht0 hA hc21) (by omega) ?_
  refine x_aload_n hP dX9_clear_110 rfl ?_
  refine x_iconst hP dX9_clear_111 (v := 3) rfl ?_
  refine x_iconst hP dX9_clear_112 (v := 0) rfl ?_
  obtain ⟨M24, hc23, hf⟩ := b_bd hf
  refine y_cvv hP oX9_emit lX9_71 [.int (3 : Int32), .int (0 : Int32)] [] rfl rfl rfl (hA _ _ (layT ht0) (by omega)) dX9_clear_113 (u_X9_emit (d := d - 1) (by omega) ht0 hA hc23) (by omega) ?_
  cases hf
  exact x_vret hP rfl dX9_clear_116
def f_X9_addStreet (t0 : Nat) (x1 : Int32) (x2 : Int32) (x3 : Int32) (M : Mem) : Option (Mem) :=
  if (10 : Int32) ≤ M.1 t0 11 then
    some M
  else
    (pg M (t0 + 1) 10 (M.1 t0 11) x1).bind fun M2 =>
    (pg M2 (t0 + 2) 10 (M2.1 t0 11) x2).bind fun M3 =>
    (pg M3 (t0 + 3) 10 (M3.1 t0 11) x3).bind fun M4 =>
    lt (sI M4 t0 11 ((M4.1 t0 11) + (1 : Int32))) fun M5 =>
    some M5
set_option maxHeartbeats 1000000 in
set_option maxRecDepth 20000 in
theorem t_X9_addStreet {g : GG} {d : Nat} (hd : 1 ≤ d) {t0 : Nat} (ht0 : isT t0) {x1 : Int32} {x2 : Int32} {x3 : Int32} {M : Mem} {M' : Mem} (hf : f_X9_addStreet t0 x1 x2 x3 M = some M') : ExM g d iX9_addStreet [.ref t0, .int x1, .int x2, .int x3] LAY M (none, LAY, M') := by
  have hd1 : 1 ≤ d := by omega
  refine ExM.main pnX9 rfl (ls := [some (.ref t0), some (.int x1), some (.int x2), some (.int x3)]) rfl ?_
  intro P hP
  rw [f_X9_addStreet] at hf
  refine x_aload_n hP dX9_addStreet_0 rfl ?_
  refine x_getI hP fX9_48 (layT ht0) dX9_addStreet_1 ?_
  refine x_bipush hP dX9_addStreet_4 (v := 10) rfl ?_
  refine x_icmp_ge hP dX9_addStreet_6 (tgt := 49) (by decide) (fun c1 => ?_) (fun c1 => ?_)
  · replace hf := p_t c1 hf
    cases hf
    exact x_vret hP rfl dX9_addStreet_49
  · replace hf := p_f c1 hf
    refine x_aload_n hP dX9_addStreet_9 rfl ?_
    refine x_getA hP fX9_11 (layT ht0) (r := t0 + 1) rfl dX9_addStreet_10 ?_
    refine x_aload_n hP dX9_addStreet_13 rfl ?_
    refine x_getI hP fX9_48 (layT ht0) dX9_addStreet_14 ?_
    refine x_iload_n hP dX9_addStreet_17 rfl ?_
    obtain ⟨M2, hiM2, hM2, hf⟩ := b_pg hf
    refine y_ast hP (layT_1 ht0) hiM2 hM2 dX9_addStreet_18 ?_
    refine x_aload_n hP dX9_addStreet_19 rfl ?_
    refine x_getA hP fX9_17 (layT ht0) (r := t0 + 2) rfl dX9_addStreet_20 ?_
    refine x_aload_n hP dX9_addStreet_23 rfl ?_
    refine x_getI hP fX9_48 (layT ht0) dX9_addStreet_24 ?_
    refine x_iload_n hP dX9_addStreet_27 rfl ?_
    obtain ⟨M3, hiM3, hM3, hf⟩ := b_pg hf
    refine y_ast hP (layT_2 ht0) hiM3 hM3 dX9_addStreet_28 ?_
    refine x_aload_n hP dX9_addStreet_29 rfl ?_
    refine x_getA hP fX9_20 (layT ht0) (r := t0 + 3) rfl dX9_addStreet_30 ?_
    refine x_aload_n hP dX9_addStreet_33 rfl ?_
    refine x_getI hP fX9_48 (layT ht0) dX9_addStreet_34 ?_
    refine x_iload_n hP dX9_addStreet_37 rfl ?_
    obtain ⟨M4, hiM4, hM4, hf⟩ := b_pg hf
    refine y_ast hP (layT_3 ht0) hiM4 hM4 dX9_addStreet_38 ?_
    refine x_aload_n hP dX9_addStreet_39 rfl ?_
    refine x_dup hP dX9_addStreet_40 rfl ?_
    refine x_getI hP fX9_48 (layT ht0) dX9_addStreet_41 ?_
    refine x_iconst hP dX9_addStreet_44 (v := 1) rfl ?_
    refine x_iadd hP dX9_addStreet_45 ?_
    obtain ⟨M5, hM5, hf⟩ := b_lt hf
    refine y_putI hP fX9_48 (layT ht0) hM5 dX9_addStreet_46 ?_
    cases hf
    exact x_vret hP rfl dX9_addStreet_49
def f_X9_addYoung (t0 : Nat) (x1 : Int32) (x2 : Int32) (x3 : Int32) (M : Mem) : Option (Mem) :=
  if (6 : Int32) ≤ M.1 t0 12 then
    some M
  else
    (pg M (t0 + 4) 6 (M.1 t0 12) x1).bind fun M2 =>
    (pg M2 (t0 + 5) 6 (M2.1 t0 12) x2).bind fun M3 =>
    (pg M3 (t0 + 6) 6 (M3.1 t0 12) x3).bind fun M4 =>
    lt (sI M4 t0 12 ((M4.1 t0 12) + (1 : Int32))) fun M5 =>
    some M5
set_option maxHeartbeats 1000000 in
set_option maxRecDepth 20000 in
theorem t_X9_addYoung {g : GG} {d : Nat} (hd : 1 ≤ d) {t0 : Nat} (ht0 : isT t0) {x1 : Int32} {x2 : Int32} {x3 : Int32} {M : Mem} {M' : Mem} (hf : f_X9_addYoung t0 x1 x2 x3 M = some M') : ExM g d iX9_addYoung [.ref t0, .int x1, .int x2, .int x3] LAY M (none, LAY, M') := by
  have hd1 : 1 ≤ d := by omega
  refine ExM.main pnX9 rfl (ls := [some (.ref t0), some (.int x1), some (.int x2), some (.int x3)]) rfl ?_
  intro P hP
  rw [f_X9_addYoung] at hf
  refine x_aload_n hP dX9_addYoung_0 rfl ?_
  refine x_getI hP fX9_51 (layT ht0) dX9_addYoung_1 ?_
  refine x_bipush hP dX9_addYoung_4 (v := 6) rfl ?_
  refine x_icmp_ge hP dX9_addYoung_6 (tgt := 49) (by decide) (fun c1 => ?_) (fun c1 => ?_)
  · replace hf := p_t c1 hf
    cases hf
    exact x_vret hP rfl dX9_addYoung_49
  · replace hf := p_f c1 hf
    refine x_aload_n hP dX9_addYoung_9 rfl ?_
    refine x_getA hP fX9_23 (layT ht0) (r := t0 + 4) rfl dX9_addYoung_10 ?_
    refine x_aload_n hP dX9_addYoung_13 rfl ?_
    refine x_getI hP fX9_51 (layT ht0) dX9_addYoung_14 ?_
    refine x_iload_n hP dX9_addYoung_17 rfl ?_
    obtain ⟨M2, hiM2, hM2, hf⟩ := b_pg hf
    refine y_ast hP (layT_4 ht0) hiM2 hM2 dX9_addYoung_18 ?_
    refine x_aload_n hP dX9_addYoung_19 rfl ?_
    refine x_getA hP fX9_26 (layT ht0) (r := t0 + 5) rfl dX9_addYoung_20 ?_
    refine x_aload_n hP dX9_addYoung_23 rfl ?_
    refine x_getI hP fX9_51 (layT ht0) dX9_addYoung_24 ?_
    refine x_iload_n hP dX9_addYoung_27 rfl ?_
    obtain ⟨M3, hiM3, hM3, hf⟩ := b_pg hf
    refine y_ast hP (layT_5 ht0) hiM3 hM3 dX9_addYoung_28 ?_
    refine x_aload_n hP dX9_addYoung_29 rfl ?_
    refine x_getA hP fX9_29 (layT ht0) (r := t0 + 6) rfl dX9_addYoung_30 ?_
    refine x_aload_n hP dX9_addYoung_33 rfl ?_
    refine x_getI hP fX9_51 (layT ht0) dX9_addYoung_34 ?_
    refine x_iload_n hP dX9_addYoung_37 rfl ?_
    obtain ⟨M4, hiM4, hM4, hf⟩ := b_pg hf
    refine y_ast hP (layT_6 ht0) hiM4 hM4 dX9_addYoung_38 ?_
    refine x_aload_n hP dX9_addYoung_39 rfl ?_
    refine x_dup hP dX9_addYoung_40 rfl ?_
    refine x_getI hP fX9_51 (layT ht0) dX9_addYoung_41 ?_
    refine x_iconst hP dX9_addYoung_44 (v := 1) rfl ?_
    refine x_iadd hP dX9_addYoung_45 ?_
    obtain ⟨M5, hM5, hf⟩ := b_lt hf
    refine y_putI hP fX9_51 (layT ht0) hM5 dX9_addYoung_46 ?_
    cases hf
    exact x_vret hP rfl dX9_addYoung_49
def f_X9_addWord (t0 : Nat) (x1 : Int32) (M : Mem) : Option (Mem) :=
  if (5 : Int32) ≤ M.1 t0 13 then
    some M
  else
    (pg M (t0 + 7) 5 (M.1 t0 13) x1).bind fun M2 =>
    lt (sI M2 t0 13 ((M2.1 t0 13) + (1 : Int32))) fun M3 =>
    some M3
set_option maxHeartbeats 1000000 in
set_option maxRecDepth 20000 in
theorem t_X9_addWord {g : GG} {d : Nat} (hd : 1 ≤ d) {t0 : Nat} (ht0 : isT t0) {x1 : Int32} {M : Mem} {M' : Mem} (hf : f_X9_addWord t0 x1 M = some M') : ExM g d iX9_addWord [.ref t0, .int x1] LAY M (none, LAY, M') := by
  have hd1 : 1 ≤ d := by omega
  refine ExM.main pnX9 rfl (ls := [some (.ref t0), some (.int x1)]) rfl ?_
  intro P hP
  rw [f_X9_addWord] at hf
  refine x_aload_n hP dX9_addWord_0 rfl ?_
  refine x_getI hP fX9_54 (layT ht0) dX9_addWord_1 ?_
  refine x_iconst hP dX9_addWord_4 (v := 5) rfl ?_
  refine x_icmp_ge hP dX9_addWord_5 (tgt := 28) (by decide) (fun c1 => ?_) (fun c1 => ?_)
  · replace hf := p_t c1 hf
    cases hf
    exact x_vret hP rfl dX9_addWord_28
  · replace hf := p_f c1 hf
    refine x_aload_n hP dX9_addWord_8 rfl ?_
    refine x_getA hP fX9_32 (layT ht0) (r := t0 + 7) rfl dX9_addWord_9 ?_
    refine x_aload_n hP dX9_addWord_12 rfl ?_
    refine x_getI hP fX9_54 (layT ht0) dX9_addWord_13 ?_
    refine x_iload_n hP dX9_addWord_16 rfl ?_
    obtain ⟨M2, hiM2, hM2, hf⟩ := b_pg hf
    refine y_ast hP (layT_7 ht0) hiM2 hM2 dX9_addWord_17 ?_
    refine x_aload_n hP dX9_addWord_18 rfl ?_
    refine x_dup hP dX9_addWord_19 rfl ?_
    refine x_getI hP fX9_54 (layT ht0) dX9_addWord_20 ?_
    refine x_iconst hP dX9_addWord_23 (v := 1) rfl ?_
    refine x_iadd hP dX9_addWord_24 ?_
    obtain ⟨M3, hM3, hf⟩ := b_lt hf
    refine y_putI hP fX9_54 (layT ht0) hM3 dX9_addWord_25 ?_
    cases hf
    exact x_vret hP rfl dX9_addWord_28
def f_X9_aimAtEnd (t0 : Nat) (x1 : Int32) (M : Mem) : Option (Mem) :=
  if x1 < 0 then
    some M
  else
    if (407 : Int32) ≤ x1 then
      some M
    else
      (pg M (t0 + 9) 407 x1 ((32768 : Int32) ||| (M.1 t0 9))).bind fun M3 =>
      some M3
set_option maxHeartbeats 1000000 in
set_option maxRecDepth 20000 in
theorem t_X9_aimAtEnd {g : GG} {d : Nat} (hd : 1 ≤ d) {t0 : Nat} (ht0 : isT t0) {x1 : Int32} {M : Mem} {M' : Mem} (hf : f_X9_aimAtEnd t0 x1 M = some M') : ExM g d iX9_aimAtEnd [.ref t0, .int x1] LAY M (none, LAY, M') := by
  have hd1 : 1 ≤ d := by omega
  refine ExM.main pnX9 rfl (ls := [some (.ref t0), some (.int x1)]) rfl ?_
  intro P hP
  rw [f_X9_aimAtEnd] at hf
  refine x_iload_n hP dX9_aimAtEnd_0 rfl ?_
  refine x_if_lt hP dX9_aimAtEnd_1 (tgt := 24) (by decide) (fun c1 => ?_) (fun c1 => ?_)
  · replace hf := p_t c1 hf
    cases hf
    exact x_vret hP rfl dX9_aimAtEnd_24
  · replace hf := p_f c1 hf
    refine x_iload_n hP dX9_aimAtEnd_4 rfl ?_
    refine x_sipush hP dX9_aimAtEnd_5 (v := 407) rfl ?_
    refine x_icmp_ge hP dX9_aimAtEnd_8 (tgt := 24) (by decide) (fun c2 => ?_) (fun c2 => ?_)
    · replace hf := p_t c2 hf
      cases hf
      exact x_vret hP rfl dX9_aimAtEnd_24
    · replace hf := p_f c2 hf
      refine x_aload_n hP dX9_aimAtEnd_11 rfl ?_
      refine x_getA hP fX9_38 (layT ht0) (r := t0 + 9) rfl dX9_aimAtEnd_12 ?_
      refine x_iload_n hP dX9_aimAtEnd_15 rfl ?_
      refine x_ldc hP dX9_aimAtEnd_16 qX9_75 ?_
      refine x_aload_n hP dX9_aimAtEnd_18 rfl ?_
      refine x_getI hP fX9_66 (layT ht0) dX9_aimAtEnd_19 ?_
      refine x_ior hP dX9_aimAtEnd_22 ?_
      obtain ⟨M3, hiM3, hM3, hf⟩ := b_pg hf
      refine y_ast hP (layT_9 ht0) hiM3 hM3 dX9_aimAtEnd_23 ?_
      cases hf
      exact x_vret hP rfl dX9_aimAtEnd_24
def f_X9_streetsOf_L4 (t0 : Nat) : Nat → Int32 → Int32 → Int32 → Mem → Option (Int32)
  | 0, _, _, _, _ => none
  | fu + 1, l1, l2, l3, M =>
    if M.1 t0 11 ≤ l3 then
      some l2
    else
      (ag M (t0 + 1) 10 l3).bind fun v2 =>
      if v2 = l1 then
        lt (l2 ||| ((1 : Int32) <<< (l3 &&& 31)) : Int32) fun v4 =>
        lt (l3 + 1 : Int32) fun v5 =>
        f_X9_streetsOf_L4 t0 fu l1 v4 v5 M
      else
        (ag M (t0 + 2) 10 l3).bind fun v6 =>
        if v6 = l1 then
          lt (l2 ||| ((1 : Int32) <<< (l3 &&& 31)) : Int32) fun v8 =>
          lt (l3 + 1 : Int32) fun v9 =>
          f_X9_streetsOf_L4 t0 fu l1 v8 v9 M
        else
          lt (l3 + 1 : Int32) fun v10 =>
          f_X9_streetsOf_L4 t0 fu l1 l2 v10 M
def f_X9_streetsOf (t0 : Nat) (x1 : Int32) (M : Mem) : Option (Int32) :=
  (f_X9_streetsOf_L4 t0 FU x1 (0 : Int32) (0 : Int32) M).bind fun t11 =>
  some t11
set_option maxHeartbeats 1000000 in
set_option maxRecDepth 20000 in
theorem t_X9_streetsOf_L4 {g : GG} {d : Nat} {P : PT} {res : Option RS} (hd : 1 ≤ d) {t0 : Nat} (ht0 : isT t0) (hP : IsM g iX9_streetsOf d res P) : ∀ (fu : Nat) (l1 : Int32) (l2 : Int32) (l3 : Int32) (M : Mem) (t : Int32), f_X9_streetsOf_L4 t0 fu l1 l2 l3 M = some t → P 44 [none, none, some (.int t), none] [] LAY M → P 4 [some (.ref t0), some (.int l1), some (.int l2), some (.int l3)] [] LAY M := by
  have hd1 : 1 ≤ d := by omega
  intro fu
  induction fu with
  | zero => intro l1 l2 l3 M t hf; simp [f_X9_streetsOf_L4] at hf
  | succ fu ih =>
    intro l1 l2 l3 M t hf hx
    rw [f_X9_streetsOf_L4] at hf
    refine x_iload_n hP dX9_streetsOf_4 rfl ?_
    refine x_aload_n hP dX9_streetsOf_5 rfl ?_
    refine x_getI hP fX9_48 (layT ht0) dX9_streetsOf_6 ?_
    refine x_icmp_ge hP dX9_streetsOf_9 (tgt := 44) (by decide) (fun c1 => ?_) (fun c1 => ?_)
    · replace hf := p_t c1 hf
      refine x_drop hP [none, none, some (.int l2), none] (And.intro rfl trivial) ?_
      cases hf
      exact hx
    · replace hf := p_f c1 hf
      refine x_aload_n hP dX9_streetsOf_12 rfl ?_
      refine x_getA hP fX9_11 (layT ht0) (r := t0 + 1) rfl dX9_streetsOf_13 ?_
      refine x_iload_n hP dX9_streetsOf_16 rfl ?_
      obtain ⟨v2, hiv2, hv2, hf⟩ := b_ag hf
      refine y_ald hP (layT_1 ht0) hiv2 hv2 dX9_streetsOf_17 ?_
      refine x_iload_n hP dX9_streetsOf_18 rfl ?_
      refine x_icmp_eq hP dX9_streetsOf_19 (tgt := 32) (by decide) (fun c3 => ?_) (fun c3 => ?_)
      · replace hf := p_t c3 hf
        refine x_iload_n hP dX9_streetsOf_32 rfl ?_
        refine x_iconst hP dX9_streetsOf_33 (v := 1) rfl ?_
        refine x_iload_n hP dX9_streetsOf_34 rfl ?_
        refine x_ishl hP dX9_streetsOf_35 ?_
        refine x_ior hP dX9_streetsOf_36 ?_
        obtain ⟨v4, hv4, hf⟩ := b_lt hf
        refine y_nmI hv4 ?_
        refine x_istore_n hP (ls2 := [some (.ref t0), some (.int l1), some (.int v4), some (.int l3)]) dX9_streetsOf_37 rfl rfl rfl ?_
        obtain ⟨v5, hv5, hf⟩ := b_lt hf
        refine x_iinc hP (v := v5) (ls2 := [some (.ref t0), some (.int l1), some (.int v4), some (.int v5)]) dX9_streetsOf_38 rfl (by rw [hv5]; rfl) rfl rfl ?_
        refine x_goto hP dX9_streetsOf_41 (tgt := 4) (by decide) ?_
        refine x_drop hP [some (.ref t0), some (.int l1), some (.int v4), some (.int v5)] (And.intro rfl (And.intro rfl (And.intro rfl (And.intro rfl trivial)))) ?_
        exact ih _ _ _ _ _ hf hx
      · replace hf := p_f c3 hf
        refine x_aload_n hP dX9_streetsOf_22 rfl ?_
        refine x_getA hP fX9_17 (layT ht0) (r := t0 + 2) rfl dX9_streetsOf_23 ?_
        refine x_iload_n hP dX9_streetsOf_26 rfl ?_
        obtain ⟨v6, hiv6, hv6, hf⟩ := b_ag hf
        refine y_ald hP (layT_2 ht0) hiv6 hv6 dX9_streetsOf_27 ?_
        refine x_iload_n hP dX9_streetsOf_28 rfl ?_
        refine x_icmp_ne hP dX9_streetsOf_29 (tgt := 38) (by decide) (fun c7 => ?_) (fun c7 => ?_)
        · replace hf := p_f c7 hf
          obtain ⟨v10, hv10, hf⟩ := b_lt hf
          refine x_iinc hP (v := v10) (ls2 := [some (.ref t0), some (.int l1), some (.int l2), some (.int v10)]) dX9_streetsOf_38 rfl (by rw [hv10]; rfl) rfl rfl ?_
          refine x_goto hP dX9_streetsOf_41 (tgt := 4) (by decide) ?_
          refine x_drop hP [some (.ref t0), some (.int l1), some (.int l2), some (.int v10)] (And.intro rfl (And.intro rfl (And.intro rfl (And.intro rfl trivial)))) ?_
          exact ih _ _ _ _ _ hf hx
        · replace hf := p_t c7 hf
          refine x_iload_n hP dX9_streetsOf_32 rfl ?_
          refine x_iconst hP dX9_streetsOf_33 (v := 1) rfl ?_
          refine x_iload_n hP dX9_streetsOf_34 rfl ?_
          refine x_ishl hP dX9_streetsOf_35 ?_
          refine x_ior hP dX9_streetsOf_36 ?_
          obtain ⟨v8, hv8, hf⟩ := b_lt hf
          refine y_nmI hv8 ?_
          refine x_istore_n hP (ls2 := [some (.ref t0), some (.int l1), some (.int v8), some (.int l3)]) dX9_streetsOf_37 rfl rfl rfl ?_
          obtain ⟨v9, hv9, hf⟩ := b_lt hf
          refine x_iinc hP (v := v9) (ls2 := [some (.ref t0), some (.int l1), some (.int v8), some (.int v9)]) dX9_streetsOf_38 rfl (by rw [hv9]; rfl) rfl rfl ?_
          refine x_goto hP dX9_streetsOf_41 (tgt := 4) (by decide) ?_
          refine x_drop hP [some (.ref t0), some (.int l1), some (.int v8), some (.int v9)] (And.intro rfl (And.intro rfl (And.intro rfl (And.intro rfl trivial)))) ?_
          exact ih _ _ _ _ _ hf hx
set_option maxHeartbeats 1000000 in
set_option maxRecDepth 20000 in
theorem t_X9_streetsOf {g : GG} {d : Nat} (hd : 1 ≤ d) {t0 : Nat} (ht0 : isT t0) {x1 : Int32} {M : Mem} {r : Int32} (hf : f_X9_streetsOf t0 x1 M = some r) : ExM g d iX9_streetsOf [.ref t0, .int x1] LAY M (some (.int r), LAY, M) := by
  have hd1 : 1 ≤ d := by omega
  refine ExM.main pnX9 rfl (ls := [some (.ref t0), some (.int x1), none, none]) rfl ?_
  intro P hP
  rw [f_X9_streetsOf] at hf
  refine x_iconst hP dX9_streetsOf_0 (v := 0) rfl ?_
  refine x_istore_n hP (ls2 := [some (.ref t0), some (.int x1), some (.int (0 : Int32)), none]) dX9_streetsOf_1 rfl rfl rfl ?_
  refine x_iconst hP dX9_streetsOf_2 (v := 0) rfl ?_
  refine x_istore_n hP (ls2 := [some (.ref t0), some (.int x1), some (.int (0 : Int32)), some (.int (0 : Int32))]) dX9_streetsOf_3 rfl rfl rfl ?_
  refine x_drop hP [some (.ref t0), some (.int x1), some (.int (0 : Int32)), some (.int (0 : Int32))] (And.intro rfl (And.intro rfl (And.intro rfl (And.intro rfl trivial)))) ?_
  obtain ⟨t11, hl12, hf⟩ := b_bd hf
  refine t_X9_streetsOf_L4 hd ht0 hP _ _ _ _ _ _ hl12 ?_
  refine x_iload_n hP dX9_streetsOf_44 rfl ?_
  cases hf
  exact x_iret hP rfl dX9_streetsOf_45
def f_X9_acrossFrom (t0 : Nat) (x1 : Int32) (x2 : Int32) (M : Mem) : Option (Int32) :=
  (ag M (t0 + 1) 10 x2).bind fun v1 =>
  if v1 = x1 then
    (ag M (t0 + 2) 10 x2).bind fun v3 =>
    some v3
  else
    (ag M (t0 + 2) 10 x2).bind fun v4 =>
    if v4 = x1 then
      (ag M (t0 + 1) 10 x2).bind fun v6 =>
      some v6
    else
      some (-1 : Int32)
set_option maxHeartbeats 1000000 in
set_option maxRecDepth 20000 in
theorem t_X9_acrossFrom {g : GG} {d : Nat} (hd : 1 ≤ d) {t0 : Nat} (ht0 : isT t0) {x1 : Int32} {x2 : Int32} {M : Mem} {r : Int32} (hf : f_X9_acrossFrom t0 x1 x2 M = some r) : ExM g d iX9_acrossFrom [.ref t0, .int x1, .int x2] LAY M (some (.int r), LAY, M) := by
  have hd1 : 1 ≤ d := by omega
  refine ExM.main pnX9 rfl (ls := [some (.ref t0), some (.int x1), some (.int x2)]) rfl ?_
  intro P hP
  rw [f_X9_acrossFrom] at hf
  refine x_aload_n hP dX9_acrossFrom_0 rfl ?_
  refine x_getA hP fX9_11 (layT ht0) (r := t0 + 1) rfl dX9_acrossFrom_1 ?_
  refine x_iload_n hP dX9_acrossFrom_4 rfl ?_
  obtain ⟨v1, hiv1, hv1, hf⟩ := b_ag hf
  refine y_ald hP (layT_1 ht0) hiv1 hv1 dX9_acrossFrom_5 ?_
  refine x_iload_n hP dX9_acrossFrom_6 rfl ?_
  refine x_icmp_ne hP dX9_acrossFrom_7 (tgt := 17) (by decide) (fun c2 => ?_) (fun c2 => ?_)
  · replace hf := p_f c2 hf
    refine x_aload_n hP dX9_acrossFrom_17 rfl ?_
    refine x_getA hP fX9_17 (layT ht0) (r := t0 + 2) rfl dX9_acrossFrom_18 ?_
    refine x_iload_n hP dX9_acrossFrom_21 rfl ?_
    obtain ⟨v4, hiv4, hv4, hf⟩ := b_ag hf
    refine y_ald hP (layT_2 ht0) hiv4 hv4 dX9_acrossFrom_22 ?_
    refine x_iload_n hP dX9_acrossFrom_23 rfl ?_
    refine x_icmp_ne hP dX9_acrossFrom_24 (tgt := 36) (by decide) (fun c5 => ?_) (fun c5 => ?_)
    · replace hf := p_f c5 hf
      refine x_iconst hP dX9_acrossFrom_36 (v := (-1)) rfl ?_
      cases hf
      exact x_iret hP rfl dX9_acrossFrom_37
    · replace hf := p_t c5 hf
      refine x_aload_n hP dX9_acrossFrom_27 rfl ?_
      refine x_getA hP fX9_11 (layT ht0) (r := t0 + 1) rfl dX9_acrossFrom_28 ?_
      refine x_iload_n hP dX9_acrossFrom_31 rfl ?_
      obtain ⟨v6, hiv6, hv6, hf⟩ := b_ag hf
      refine y_ald hP (layT_1 ht0) hiv6 hv6 dX9_acrossFrom_32 ?_
      refine x_goto hP dX9_acrossFrom_33 (tgt := 37) (by decide) ?_
      cases hf
      exact x_iret hP rfl dX9_acrossFrom_37
  · replace hf := p_t c2 hf
    refine x_aload_n hP dX9_acrossFrom_10 rfl ?_
    refine x_getA hP fX9_17 (layT ht0) (r := t0 + 2) rfl dX9_acrossFrom_11 ?_
    refine x_iload_n hP dX9_acrossFrom_14 rfl ?_
    obtain ⟨v3, hiv3, hv3, hf⟩ := b_ag hf
    refine y_ald hP (layT_2 ht0) hiv3 hv3 dX9_acrossFrom_15 ?_
    cases hf
    exact x_iret hP rfl dX9_acrossFrom_16

-- by program: wip/whole/gen/build_parts.py
def f_X0_stir (x0 : Int32) (x1 : Int32) : Option (Int32) :=
  lt (((x0 ^^^ x1) * (1103515245 : Int32)) + (12345 : Int32) : Int32) fun v1 =>
  some (v1 ^^^ ((v1.toUInt32 >>> ((15 : Int32).toUInt32 &&& Int32.toUInt32 31)).toInt32))
set_option maxHeartbeats 1000000 in
set_option maxRecDepth 20000 in
theorem t_X0_stir {g : GG} {L : List Lay} {d : Nat} (hd : 1 ≤ d) {x0 : Int32} {x1 : Int32} {M : Mem} {r : Int32} (hf : f_X0_stir x0 x1 = some r) : ExM g d iX0_stir [.int x0, .int x1] L M (some (.int r), L, M) := by
  have hd1 : 1 ≤ d := by omega
  refine ExM.main pnX0 rfl (ls := [some (.int x0), some (.int x1), none]) rfl ?_
  intro P hP
  rw [f_X0_stir] at hf
  refine x_iload_n hP dX0_stir_0 rfl ?_
  refine x_iload_n hP dX0_stir_1 rfl ?_
  refine x_ixor hP dX0_stir_2 ?_
  refine x_ldc hP dX0_stir_3 qX0_103 ?_
  refine x_imul hP dX0_stir_5 ?_
  refine x_sipush hP dX0_stir_6 (v := 12345) rfl ?_
  refine x_iadd hP dX0_stir_9 ?_
  obtain ⟨v1, hv1, hf⟩ := b_lt hf
  refine y_nmI hv1 ?_
  refine x_istore_n hP (ls2 := [some (.int x0), some (.int x1), some (.int v1)]) dX0_stir_10 rfl rfl rfl ?_
  refine x_iload_n hP dX0_stir_11 rfl ?_
  refine x_iload_n hP dX0_stir_12 rfl ?_
  refine x_bipush hP dX0_stir_13 (v := 15) rfl ?_
  refine x_iushr hP dX0_stir_15 ?_
  refine x_ixor hP dX0_stir_16 ?_
  cases hf
  exact x_iret hP rfl dX0_stir_17
def f_X0_lot (x0 : Int32) (x1 : Int32) (x2 : Int32) : Option (Int32) :=
  (f_X0_stir x1 (175 : Int32)).bind fun v2 =>
  (f_X0_stir v2 x2).bind fun v4 =>
  if 0 < x0 then
    (rm ((v4.toUInt32 >>> ((1 : Int32).toUInt32 &&& Int32.toUInt32 31)).toInt32) x0).bind fun v6 =>
    some v6
  else
    some (0 : Int32)
set_option maxHeartbeats 1000000 in
set_option maxRecDepth 20000 in
theorem t_X0_lot {g : GG} {L : List Lay} {d : Nat} (hd : 2 ≤ d) {x0 : Int32} {x1 : Int32} {x2 : Int32} {M : Mem} {r : Int32} (hf : f_X0_lot x0 x1 x2 = some r) : ExM g d iX0_lot [.int x0, .int x1, .int x2] L M (some (.int r), L, M) := by
  have hd1 : 1 ≤ d := by omega
  refine ExM.main pnX0 rfl (ls := [some (.int x0), some (.int x1), some (.int x2), none]) rfl ?_
  intro P hP
  rw [f_X0_lot] at hf
  refine x_iload_n hP dX0_lot_0 rfl ?_
  refine x_sipush hP dX0_lot_1 (v := 175) rfl ?_
  obtain ⟨v2, hc1, hf⟩ := b_bd hf
  refine y_csi hP oX0_stir lX0_100 [.int x1, .int (175 : Int32)] [] rfl rfl rfl dX0_lot_4 (t_X0_stir (d := d - 1) (by omega) hc1) (by omega) ?_
  refine x_iload_n hP dX0_lot_7 rfl ?_
  obtain ⟨v4, hc3, hf⟩ := b_bd hf
  refine y_csi hP oX0_stir lX0_100 [.int v2, .int x2] [] rfl rfl rfl dX0_lot_8 (t_X0_stir (d := d - 1) (by omega) hc3) (by omega) ?_
  refine x_istore_n hP (ls2 := [some (.int x0), some (.int x1), some (.int x2), some (.int v4)]) dX0_lot_11 rfl rfl rfl ?_
  refine x_iload_n hP dX0_lot_12 rfl ?_
  refine x_if_gt hP dX0_lot_13 (tgt := 20) (by decide) (fun c5 => ?_) (fun c5 => ?_)
  · replace hf := p_t c5 hf
    refine x_iload_n hP dX0_lot_20 rfl ?_
    refine x_iconst hP dX0_lot_21 (v := 1) rfl ?_
    refine x_iushr hP dX0_lot_22 ?_
    refine x_iload_n hP dX0_lot_23 rfl ?_
    obtain ⟨v6, hzv6, hv6, hf⟩ := b_rm hf
    refine y_rem hP hzv6 hv6 dX0_lot_24 ?_
    cases hf
    exact x_iret hP rfl dX0_lot_25
  · replace hf := p_f c5 hf
    refine x_iconst hP dX0_lot_16 (v := 0) rfl ?_
    refine x_goto hP dX0_lot_17 (tgt := 25) (by decide) ?_
    cases hf
    exact x_iret hP rfl dX0_lot_25
def f_X0_isDraughty (t0 : Nat) (x1 : Int32) (x2 : Int32) (M : Mem) : Option (Int32) :=
  (f_X0_lot (100 : Int32) x2 ((4 : Int32) * x1)).bind fun v2 =>
  if M.1 t0 15 ≤ v2 then
    some (0 : Int32)
  else
    some (1 : Int32)
set_option maxHeartbeats 1000000 in
set_option maxRecDepth 20000 in
theorem t_X0_isDraughty {g : GG} {d : Nat} (hd : 3 ≤ d) {t0 : Nat} (ht0 : isT t0) {x1 : Int32} {x2 : Int32} {M : Mem} {r : Int32} (hf : f_X0_isDraughty t0 x1 x2 M = some r) : ExM g d iX0_isDraughty [.ref t0, .int x1, .int x2] LAY M (some (.int r), LAY, M) := by
  have hd1 : 1 ≤ d := by omega
  refine ExM.main pnX0 rfl (ls := [some (.ref t0), some (.int x1), some (.int x2)]) rfl ?_
  intro P hP
  rw [f_X0_isDraughty] at hf
  refine x_bipush hP dX0_isDraughty_0 (v := 100) rfl ?_
  refine x_iload_n hP dX0_isDraughty_2 rfl ?_
  refine x_iconst hP dX0_isDraughty_3 (v := 4) rfl ?_
  refine x_iload_n hP dX0_isDraughty_4 rfl ?_
  refine x_imul hP dX0_isDraughty_5 ?_
  obtain ⟨v2, hc1, hf⟩ := b_bd hf
  refine y_csi hP oX0_lot lX0_27 [.int (100 : Int32), .int x2, .int ((4 : Int32) * x1)] [] rfl rfl rfl dX0_isDraughty_6 (t_X0_lot (d := d - 1) (by omega) hc1) (by omega) ?_
  refine x_aload_n hP dX0_isDraughty_9 rfl ?_
  refine x_getI hP fX0_31 (layT ht0) dX0_isDraughty_10 ?_
  refine x_icmp_ge hP dX0_isDraughty_13 (tgt := 20) (by decide) (fun c3 => ?_) (fun c3 => ?_)
  · replace hf := p_t c3 hf
    refine x_iconst hP dX0_isDraughty_20 (v := 0) rfl ?_
    cases hf
    exact x_zret hP rfl (Or.inl rfl) dX0_isDraughty_21
  · replace hf := p_f c3 hf
    refine x_iconst hP dX0_isDraughty_16 (v := 1) rfl ?_
    refine x_goto hP dX0_isDraughty_17 (tgt := 21) (by decide) ?_
    cases hf
    exact x_zret hP rfl (Or.inr rfl) dX0_isDraughty_21
def f_X0_chilledCorner (n0 : Nat) (x1 : Int32) (M : Mem) : Option (Int32) :=
  (rT M n0 0).bind fun t1 =>
  if M.1 t1 10 = 0 then
    some (-1 : Int32)
  else
    (rT M n0 0).bind fun t3 =>
    (f_X0_isDraughty t3 (M.1 n0 1) x1 M).bind fun v5 =>
    if v5 = 0 then
      some (-1 : Int32)
    else
      (rT M n0 0).bind fun t7 =>
      (f_X0_lot (M.1 t7 10) x1 (((4 : Int32) * (M.1 n0 1)) + (1 : Int32))).bind fun v9 =>
      some v9
set_option maxHeartbeats 1000000 in
set_option maxRecDepth 20000 in
theorem t_X0_chilledCorner {g : GG} {d : Nat} (hd : 4 ≤ d) {n0 : Nat} (hn0 : isN n0) {x1 : Int32} {M : Mem} {r : Int32} (hf : f_X0_chilledCorner n0 x1 M = some r) : ExM g d iX0_chilledCorner [.ref n0, .int x1] LAY M (some (.int r), LAY, M) := by
  have hd1 : 1 ≤ d := by omega
  refine ExM.main pnX0 rfl (ls := [some (.ref n0), some (.int x1)]) rfl ?_
  intro P hP
  rw [f_X0_chilledCorner] at hf
  refine x_aload_n hP dX0_chilledCorner_0 rfl ?_
  obtain ⟨t1, ht1, hrt1, hf⟩ := b_rT hf
  refine x_getM hP fX0_57 (layN hn0) hrt1 dX0_chilledCorner_1 ?_
  refine x_getI hP fX0_93 (layT ht1) dX0_chilledCorner_4 ?_
  refine x_if_eq hP dX0_chilledCorner_7 (tgt := 25) (by decide) (fun c2 => ?_) (fun c2 => ?_)
  · replace hf := p_t c2 hf
    refine x_iconst hP dX0_chilledCorner_25 (v := (-1)) rfl ?_
    cases hf
    exact x_iret hP rfl dX0_chilledCorner_26
  · replace hf := p_f c2 hf
    refine x_aload_n hP dX0_chilledCorner_10 rfl ?_
    obtain ⟨t3, ht3, hrt3, hf⟩ := b_rT hf
    refine x_getM hP fX0_57 (layN hn0) hrt3 dX0_chilledCorner_11 ?_
    refine x_aload_n hP dX0_chilledCorner_14 rfl ?_
    refine x_getI hP fX0_90 (layN hn0) dX0_chilledCorner_15 ?_
    refine x_iload_n hP dX0_chilledCorner_18 rfl ?_
    obtain ⟨v5, hc4, hf⟩ := b_bd hf
    refine y_csi hP oX0_isDraughty lX0_96 [.ref t3, .int (M.1 n0 1), .int x1] [] rfl rfl rfl dX0_chilledCorner_19 (t_X0_isDraughty (d := d - 1) (by omega) ht3 hc4) (by omega) ?_
    refine x_if_ne hP dX0_chilledCorner_22 (tgt := 27) (by decide) (fun c6 => ?_) (fun c6 => ?_)
    · replace hf := p_f c6 hf
      refine x_aload_n hP dX0_chilledCorner_27 rfl ?_
      obtain ⟨t7, ht7, hrt7, hf⟩ := b_rT hf
      refine x_getM hP fX0_57 (layN hn0) hrt7 dX0_chilledCorner_28 ?_
      refine x_getI hP fX0_93 (layT ht7) dX0_chilledCorner_31 ?_
      refine x_iload_n hP dX0_chilledCorner_34 rfl ?_
      refine x_iconst hP dX0_chilledCorner_35 (v := 4) rfl ?_
      refine x_aload_n hP dX0_chilledCorner_36 rfl ?_
      refine x_getI hP fX0_90 (layN hn0) dX0_chilledCorner_37 ?_
      refine x_imul hP dX0_chilledCorner_40 ?_
      refine x_iconst hP dX0_chilledCorner_41 (v := 1) rfl ?_
      refine x_iadd hP dX0_chilledCorner_42 ?_
      obtain ⟨v9, hc8, hf⟩ := b_bd hf
      refine y_csi hP oX0_lot lX0_27 [.int (M.1 t7 10), .int x1, .int (((4 : Int32) * (M.1 n0 1)) + (1 : Int32))] [] rfl rfl rfl dX0_chilledCorner_43 (t_X0_lot (d := d - 1) (by omega) hc8) (by omega) ?_
      cases hf
      exact x_iret hP rfl dX0_chilledCorner_46
    · replace hf := p_t c6 hf
      refine x_iconst hP dX0_chilledCorner_25 (v := (-1)) rfl ?_
      cases hf
      exact x_iret hP rfl dX0_chilledCorner_26
def f_X0_passHour_L2 (n1 : Nat) : Nat → Int32 → Int32 → Mem → Option (Mem)
  | 0, _, _, _ => none
  | fu + 1, l2, l3, M =>
    (rT M n1 0).bind fun t1 =>
    if M.1 t1 12 ≤ l3 then
      some M
    else
      (f_X3_isHome n1 l3 M).bind fun v4 =>
      if v4 = 0 then
        (f_X2_leaves 35 n1 l3 M).bind fun t7 =>
        (ag t7.2 (n1 + 2) 6 l3).bind fun v8 =>
        (f_X2_cools 35 n1 l3 t7.2).bind fun t10 =>
        lt (if (0 : Int32) < v8 - t10.1 then v8 - t10.1 else (0 : Int32) : Int32) fun v11 =>
        (ag t10.2 (n1 + 1) 6 l3).bind fun v12 =>
        (
          if v12 = l2 then
            lt (v11 / (2 : Int32) : Int32) fun v15 =>
            some v15
          else
            some v11
        ).bind fun t13 =>
        lt (
          if t7.1 = 0 then
            t13
          else
            (0 : Int32)
         : Int32) fun t16 =>
        (pg t10.2 (n1 + 2) 6 l3 t16).bind fun M18 =>
        if t7.1 = 0 then
          lt (l3 + 1 : Int32) fun v20 =>
          f_X0_passHour_L2 n1 fu l2 v20 M18
        else
          lt (sI M18 n1 3 ((M18.1 n1 3) ||| ((1 : Int32) <<< (l3 &&& 31)))) fun M21 =>
          lt (l3 + 1 : Int32) fun v22 =>
          f_X0_passHour_L2 n1 fu l2 v22 M21
      else
        lt (l3 + 1 : Int32) fun v23 =>
        f_X0_passHour_L2 n1 fu l2 v23 M
def f_X0_passHour (n1 : Nat) (x2 : Int32) (M : Mem) : Option (Mem) :=
  (f_X0_passHour_L2 n1 FU x2 (0 : Int32) M).bind fun t24 =>
  lt (sI t24 n1 1 ((t24.1 n1 1) + (1 : Int32))) fun M26 =>
  some M26
set_option maxHeartbeats 1000000 in
set_option maxRecDepth 20000 in
theorem t_X0_passHour_L2 {g : GG} {d : Nat} {P : PT} {res : Option RS} (hd : 4 ≤ d) {n1 : Nat} (hn1 : isN n1) (hP : IsM g iX0_passHour d res P) : ∀ (fu : Nat) (l2 : Int32) (l3 : Int32) (M : Mem) (t : Mem), f_X0_passHour_L2 n1 fu l2 l3 M = some t → P 113 [none, some (.ref n1), none, none, none, none] [] LAY t → P 2 [some (.ref 34), some (.ref n1), some (.int l2), some (.int l3), none, none] [] LAY M := by
  have hd1 : 1 ≤ d := by omega
  intro fu
  induction fu with
  | zero => intro l2 l3 M t hf; simp [f_X0_passHour_L2] at hf
  | succ fu ih =>
    intro l2 l3 M t hf hx
    rw [f_X0_passHour_L2] at hf
    refine x_iload_n hP dX0_passHour_2 rfl ?_
    refine x_aload_n hP dX0_passHour_3 rfl ?_
    obtain ⟨t1, ht1, hrt1, hf⟩ := b_rT hf
    refine x_getM hP fX0_57 (layN hn1) hrt1 dX0_passHour_4 ?_
    refine x_getI hP fX0_61 (layT ht1) dX0_passHour_7 ?_
    refine x_icmp_ge hP dX0_passHour_10 (tgt := 113) (by decide) (fun c2 => ?_) (fun c2 => ?_)
    · replace hf := p_t c2 hf
      refine x_drop hP [none, some (.ref n1), none, none, none, none] (And.intro rfl trivial) ?_
      cases hf
      exact hx
    · replace hf := p_f c2 hf
      refine x_aload_n hP dX0_passHour_13 rfl ?_
      refine x_iload_n hP dX0_passHour_14 rfl ?_
      obtain ⟨v4, hc3, hf⟩ := b_bd hf
      refine y_cvi hP oX3_isHome lX0_64 [.int l3] [] rfl rfl rfl (layN hn1) dX0_passHour_15 (t_X3_isHome (d := d - 1) (by omega) hn1 hc3) (by omega) ?_
      refine x_if_eq hP dX0_passHour_18 (tgt := 24) (by decide) (fun c5 => ?_) (fun c5 => ?_)
      · replace hf := p_t c5 hf
        refine x_aload_n hP dX0_passHour_24 rfl ?_
        refine x_getO hP fX0_12 lay34 (r := 35) rfl dX0_passHour_25 ?_
        refine x_aload_n hP dX0_passHour_28 rfl ?_
        refine x_iload_n hP dX0_passHour_29 rfl ?_
        obtain ⟨t7, hc6, hf⟩ := b_bd hf
        refine y_cvi hP oX2_leaves lX0_67 [.ref n1, .int l3] [] rfl rfl rfl lay35 dX0_passHour_30 (t_X2_leaves (d := d - 1) (by omega) isL_35 hn1 hc6) (by omega) ?_
        refine x_istore hP (ls2 := [some (.ref 34), some (.ref n1), some (.int l2), some (.int l3), some (.int t7.1), none]) dX0_passHour_33 rfl rfl ?_
        refine x_iconst hP dX0_passHour_35 (v := 0) rfl ?_
        refine x_aload_n hP dX0_passHour_36 rfl ?_
        refine x_getA hP fX0_71 (layN hn1) (r := n1 + 2) rfl dX0_passHour_37 ?_
        refine x_iload_n hP dX0_passHour_40 rfl ?_
        obtain ⟨v8, hiv8, hv8, hf⟩ := b_ag hf
        refine y_ald hP (layN_2 hn1) hiv8 hv8 dX0_passHour_41 ?_
        refine x_aload_n hP dX0_passHour_42 rfl ?_
        refine x_getO hP fX0_12 lay34 (r := 35) rfl dX0_passHour_43 ?_
        refine x_aload_n hP dX0_passHour_46 rfl ?_
        refine x_iload_n hP dX0_passHour_47 rfl ?_
        obtain ⟨t10, hc9, hf⟩ := b_bd hf
        refine y_cvi hP oX2_cools lX0_75 [.ref n1, .int l3] [.int v8, .int (0 : Int32)] rfl rfl rfl lay35 dX0_passHour_48 (t_X2_cools (d := d - 1) (by omega) isL_35 hn1 hc9) (by omega) ?_
        refine x_isub hP dX0_passHour_51 ?_
        refine y_max hP lX0_78 rfl hd1 dX0_passHour_52 ?_
        obtain ⟨v11, hv11, hf⟩ := b_lt hf
        refine y_nmI hv11 ?_
        refine x_istore hP (ls2 := [some (.ref 34), some (.ref n1), some (.int l2), some (.int l3), some (.int t7.1), some (.int v11)]) dX0_passHour_55 rfl rfl ?_
        refine x_aload_n hP dX0_passHour_57 rfl ?_
        refine x_getA hP fX0_84 (layN hn1) (r := n1 + 1) rfl dX0_passHour_58 ?_
        refine x_iload_n hP dX0_passHour_61 rfl ?_
        obtain ⟨v12, hiv12, hv12, hf⟩ := b_ag hf
        refine y_ald hP (layN_1 hn1) hiv12 hv12 dX0_passHour_62 ?_
        refine x_iload_n hP dX0_passHour_63 rfl ?_
        obtain ⟨t13, het13, hf⟩ := b_bd hf
        have hj13 : P 73 [some (.ref 34), some (.ref n1), some (.int l2), some (.int l3), some (.int t7.1), some (.int t13)] [] LAY t10.2 := by
          refine x_aload_n hP dX0_passHour_73 rfl ?_
          refine x_getA hP fX0_71 (layN hn1) (r := n1 + 2) rfl dX0_passHour_74 ?_
          refine x_iload_n hP dX0_passHour_77 rfl ?_
          refine x_iload hP dX0_passHour_78 rfl ?_
          obtain ⟨t16, het16, hf⟩ := b_lt hf
          have hj16 : P 89 [some (.ref 34), some (.ref n1), some (.int l2), some (.int l3), some (.int t7.1), none] [.int t16, .int l3, .ref (n1 + 2)] LAY t10.2 := by
            obtain ⟨M18, hiM18, hM18, hf⟩ := b_pg hf
            refine y_ast hP (layN_2 hn1) hiM18 hM18 dX0_passHour_89 ?_
            refine x_iload hP dX0_passHour_90 rfl ?_
            refine x_if_eq hP dX0_passHour_92 (tgt := 107) (by decide) (fun c19 => ?_) (fun c19 => ?_)
            · replace hf := p_t c19 hf
              obtain ⟨v20, hv20, hf⟩ := b_lt hf
              refine x_iinc hP (v := v20) (ls2 := [some (.ref 34), some (.ref n1), some (.int l2), some (.int v20), some (.int t7.1), none]) dX0_passHour_107 rfl (by rw [hv20]; rfl) rfl rfl ?_
              refine x_goto hP dX0_passHour_110 (tgt := 2) (by decide) ?_
              refine x_drop hP [some (.ref 34), some (.ref n1), some (.int l2), some (.int v20), none, none] (And.intro rfl (And.intro rfl (And.intro rfl (And.intro rfl trivial)))) ?_
              exact ih _ _ _ _ hf hx
            · replace hf := p_f c19 hf
              refine x_aload_n hP dX0_passHour_95 rfl ?_
              refine x_dup hP dX0_passHour_96 rfl ?_
              refine x_getI hP fX0_87 (layN hn1) dX0_passHour_97 ?_
              refine x_iconst hP dX0_passHour_100 (v := 1) rfl ?_
              refine x_iload_n hP dX0_passHour_101 rfl ?_
              refine x_ishl hP dX0_passHour_102 ?_
              refine x_ior hP dX0_passHour_103 ?_
              obtain ⟨M21, hM21, hf⟩ := b_lt hf
              refine y_putI hP fX0_87 (layN hn1) hM21 dX0_passHour_104 ?_
              obtain ⟨v22, hv22, hf⟩ := b_lt hf
              refine x_iinc hP (v := v22) (ls2 := [some (.ref 34), some (.ref n1), some (.int l2), some (.int v22), some (.int t7.1), none]) dX0_passHour_107 rfl (by rw [hv22]; rfl) rfl rfl ?_
              refine x_goto hP dX0_passHour_110 (tgt := 2) (by decide) ?_
              refine x_drop hP [some (.ref 34), some (.ref n1), some (.int l2), some (.int v22), none, none] (And.intro rfl (And.intro rfl (And.intro rfl (And.intro rfl trivial)))) ?_
              exact ih _ _ _ _ hf hx
          clear hf
          have hf := het16
          clear het16
          refine x_if_eq hP dX0_passHour_80 (tgt := 87) (by decide) (fun c17 => ?_) (fun c17 => ?_)
          · replace hf := e_t c17 hf
            refine x_iload hP dX0_passHour_87 rfl ?_
            refine x_drop hP [some (.ref 34), some (.ref n1), some (.int l2), some (.int l3), some (.int t7.1), none] (And.intro rfl (And.intro rfl (And.intro rfl (And.intro rfl (And.intro rfl trivial))))) ?_
            subst hf
            exact hj16
          · replace hf := e_f c17 hf
            refine x_iconst hP dX0_passHour_83 (v := 0) rfl ?_
            refine x_goto hP dX0_passHour_84 (tgt := 89) (by decide) ?_
            refine x_drop hP [some (.ref 34), some (.ref n1), some (.int l2), some (.int l3), some (.int t7.1), none] (And.intro rfl (And.intro rfl (And.intro rfl (And.intro rfl (And.intro rfl trivial))))) ?_
            subst hf
            exact hj16
        clear hf
        have hf := het13
        clear het13
        refine x_icmp_ne hP dX0_passHour_64 (tgt := 73) (by decide) (fun c14 => ?_) (fun c14 => ?_)
        · replace hf := p_f c14 hf
          refine x_drop hP [some (.ref 34), some (.ref n1), some (.int l2), some (.int l3), some (.int t7.1), some (.int v11)] (And.intro rfl (And.intro rfl (And.intro rfl (And.intro rfl (And.intro rfl (And.intro rfl trivial)))))) ?_
          cases hf
          exact hj13
        · replace hf := p_t c14 hf
          refine x_iload hP dX0_passHour_67 rfl ?_
          refine x_iconst hP dX0_passHour_69 (v := 2) rfl ?_
          refine x_idiv hP dX0_passHour_70 (by decide) ?_
          obtain ⟨v15, hv15, hf⟩ := b_lt hf
          refine y_nmI hv15 ?_
          refine x_istore hP (ls2 := [some (.ref 34), some (.ref n1), some (.int l2), some (.int l3), some (.int t7.1), some (.int v15)]) dX0_passHour_71 rfl rfl ?_
          refine x_drop hP [some (.ref 34), some (.ref n1), some (.int l2), some (.int l3), some (.int t7.1), some (.int v15)] (And.intro rfl (And.intro rfl (And.intro rfl (And.intro rfl (And.intro rfl (And.intro rfl trivial)))))) ?_
          cases hf
          exact hj13
      · replace hf := p_f c5 hf
        refine x_goto hP dX0_passHour_21 (tgt := 107) (by decide) ?_
        obtain ⟨v23, hv23, hf⟩ := b_lt hf
        refine x_iinc hP (v := v23) (ls2 := [some (.ref 34), some (.ref n1), some (.int l2), some (.int v23), none, none]) dX0_passHour_107 rfl (by rw [hv23]; rfl) rfl rfl ?_
        refine x_goto hP dX0_passHour_110 (tgt := 2) (by decide) ?_
        refine x_drop hP [some (.ref 34), some (.ref n1), some (.int l2), some (.int v23), none, none] (And.intro rfl (And.intro rfl (And.intro rfl (And.intro rfl trivial)))) ?_
        exact ih _ _ _ _ hf hx
set_option maxHeartbeats 1000000 in
set_option maxRecDepth 20000 in
theorem t_X0_passHour {g : GG} {d : Nat} (hd : 4 ≤ d) {n1 : Nat} (hn1 : isN n1) {x2 : Int32} {M : Mem} {M' : Mem} (hf : f_X0_passHour n1 x2 M = some M') : ExM g d iX0_passHour [.ref 34, .ref n1, .int x2] LAY M (none, LAY, M') := by
  have hd1 : 1 ≤ d := by omega
  refine ExM.main pnX0 rfl (ls := [some (.ref 34), some (.ref n1), some (.int x2), none, none, none]) rfl ?_
  intro P hP
  rw [f_X0_passHour] at hf
  refine x_iconst hP dX0_passHour_0 (v := 0) rfl ?_
  refine x_istore_n hP (ls2 := [some (.ref 34), some (.ref n1), some (.int x2), some (.int (0 : Int32)), none, none]) dX0_passHour_1 rfl rfl rfl ?_
  refine x_drop hP [some (.ref 34), some (.ref n1), some (.int x2), some (.int (0 : Int32)), none, none] (And.intro rfl (And.intro rfl (And.intro rfl (And.intro rfl trivial)))) ?_
  obtain ⟨t24, hl25, hf⟩ := b_bd hf
  refine t_X0_passHour_L2 hd hn1 hP _ _ _ _ _ hl25 ?_
  refine x_aload_n hP dX0_passHour_113 rfl ?_
  refine x_dup hP dX0_passHour_114 rfl ?_
  refine x_getI hP fX0_90 (layN hn1) dX0_passHour_115 ?_
  refine x_iconst hP dX0_passHour_118 (v := 1) rfl ?_
  refine x_iadd hP dX0_passHour_119 ?_
  obtain ⟨M26, hM26, hf⟩ := b_lt hf
  refine y_putI hP fX0_90 (layN hn1) hM26 dX0_passHour_120 ?_
  cases hf
  exact x_vret hP rfl dX0_passHour_123
def f_X0_passHours_L3 (n1 : Nat) : Nat → Int32 → Int32 → Int32 → Int32 → Mem → Option (Mem)
  | 0, _, _, _, _, _ => none
  | fu + 1, l2, l3, l4, l5, M =>
    if l2 ≤ l5 then
      some M
    else
      (
        if l4 = 0 then
          some (-1 : Int32)
        else
          (f_X0_chilledCorner n1 l3 M).bind fun v5 =>
          some v5
      ).bind fun t2 =>
      (f_X0_passHour n1 t2 M).bind fun M7 =>
      lt (l5 + 1 : Int32) fun v8 =>
      f_X0_passHours_L3 n1 fu l2 l3 l4 v8 M7
def f_X0_passHours (n1 : Nat) (x2 : Int32) (x3 : Int32) (x4 : Int32) (M : Mem) : Option (Mem) :=
  (f_X0_passHours_L3 n1 FU x2 x3 x4 (0 : Int32) M).bind fun t9 =>
  some t9
set_option maxHeartbeats 1000000 in
set_option maxRecDepth 20000 in
theorem t_X0_passHours_L3 {g : GG} {d : Nat} {P : PT} {res : Option RS} (hd : 5 ≤ d) {n1 : Nat} (hn1 : isN n1) (hP : IsM g iX0_passHours d res P) : ∀ (fu : Nat) (l2 : Int32) (l3 : Int32) (l4 : Int32) (l5 : Int32) (M : Mem) (t : Mem), f_X0_passHours_L3 n1 fu l2 l3 l4 l5 M = some t → P 34 [none, none, none, none, none, none] [] LAY t → P 3 [some (.ref 34), some (.ref n1), some (.int l2), some (.int l3), some (.int l4), some (.int l5)] [] LAY M := by
  have hd1 : 1 ≤ d := by omega
  intro fu
  induction fu with
  | zero => intro l2 l3 l4 l5 M t hf; simp [f_X0_passHours_L3] at hf
  | succ fu ih =>
    intro l2 l3 l4 l5 M t hf hx
    rw [f_X0_passHours_L3] at hf
    refine x_iload hP dX0_passHours_3 rfl ?_
    refine x_iload_n hP dX0_passHours_5 rfl ?_
    refine x_icmp_ge hP dX0_passHours_6 (tgt := 34) (by decide) (fun c1 => ?_) (fun c1 => ?_)
    · replace hf := p_t c1 hf
      refine x_drop hP [none, none, none, none, none, none] trivial ?_
      cases hf
      exact hx
    · replace hf := p_f c1 hf
      refine x_aload_n hP dX0_passHours_9 rfl ?_
      refine x_aload_n hP dX0_passHours_10 rfl ?_
      refine x_iload hP dX0_passHours_11 rfl ?_
      obtain ⟨t2, het2, hf⟩ := b_bd hf
      have hj2 : P 25 [some (.ref 34), some (.ref n1), some (.int l2), some (.int l3), some (.int l4), some (.int l5)] [.int t2, .ref n1, .ref 34] LAY M := by
        obtain ⟨M7, hc6, hf⟩ := b_bd hf
        refine y_cvv hP oX0_passHour lX0_41 [.ref n1, .int t2] [] rfl rfl rfl lay34 dX0_passHours_25 (t_X0_passHour (d := d - 1) (by omega) hn1 hc6) (by omega) ?_
        obtain ⟨v8, hv8, hf⟩ := b_lt hf
        refine x_iinc hP (v := v8) (ls2 := [some (.ref 34), some (.ref n1), some (.int l2), some (.int l3), some (.int l4), some (.int v8)]) dX0_passHours_28 rfl (by rw [hv8]; rfl) rfl rfl ?_
        refine x_goto hP dX0_passHours_31 (tgt := 3) (by decide) ?_
        refine x_drop hP [some (.ref 34), some (.ref n1), some (.int l2), some (.int l3), some (.int l4), some (.int v8)] (And.intro rfl (And.intro rfl (And.intro rfl (And.intro rfl (And.intro rfl (And.intro rfl trivial)))))) ?_
        exact ih _ _ _ _ _ _ hf hx
      clear hf
      have hf := het2
      clear het2
      refine x_if_eq hP dX0_passHours_13 (tgt := 24) (by decide) (fun c3 => ?_) (fun c3 => ?_)
      · replace hf := p_t c3 hf
        refine x_iconst hP dX0_passHours_24 (v := (-1)) rfl ?_
        refine x_drop hP [some (.ref 34), some (.ref n1), some (.int l2), some (.int l3), some (.int l4), some (.int l5)] (And.intro rfl (And.intro rfl (And.intro rfl (And.intro rfl (And.intro rfl (And.intro rfl trivial)))))) ?_
        cases hf
        exact hj2
      · replace hf := p_f c3 hf
        refine x_aload_n hP dX0_passHours_16 rfl ?_
        refine x_iload_n hP dX0_passHours_17 rfl ?_
        obtain ⟨v5, hc4, hf⟩ := b_bd hf
        refine y_csi hP oX0_chilledCorner lX0_37 [.ref n1, .int l3] [.ref n1, .ref 34] rfl rfl rfl dX0_passHours_18 (t_X0_chilledCorner (d := d - 1) (by omega) hn1 hc4) (by omega) ?_
        refine x_goto hP dX0_passHours_21 (tgt := 25) (by decide) ?_
        refine x_drop hP [some (.ref 34), some (.ref n1), some (.int l2), some (.int l3), some (.int l4), some (.int l5)] (And.intro rfl (And.intro rfl (And.intro rfl (And.intro rfl (And.intro rfl (And.intro rfl trivial)))))) ?_
        cases hf
        exact hj2
set_option maxHeartbeats 1000000 in
set_option maxRecDepth 20000 in
theorem t_X0_passHours {g : GG} {d : Nat} (hd : 5 ≤ d) {n1 : Nat} (hn1 : isN n1) {x2 : Int32} {x3 : Int32} {x4 : Int32} {M : Mem} {M' : Mem} (hf : f_X0_passHours n1 x2 x3 x4 M = some M') : ExM g d iX0_passHours [.ref 34, .ref n1, .int x2, .int x3, .int x4] LAY M (none, LAY, M') := by
  have hd1 : 1 ≤ d := by omega
  refine ExM.main pnX0 rfl (ls := [some (.ref 34), some (.ref n1), some (.int x2), some (.int x3), some (.int x4), none]) rfl ?_
  intro P hP
  rw [f_X0_passHours] at hf
  refine x_iconst hP dX0_passHours_0 (v := 0) rfl ?_
  refine x_istore hP (ls2 := [some (.ref 34), some (.ref n1), some (.int x2), some (.int x3), some (.int x4), some (.int (0 : Int32))]) dX0_passHours_1 rfl rfl ?_
  refine x_drop hP [some (.ref 34), some (.ref n1), some (.int x2), some (.int x3), some (.int x4), some (.int (0 : Int32))] (And.intro rfl (And.intro rfl (And.intro rfl (And.intro rfl (And.intro rfl (And.intro rfl trivial)))))) ?_
  obtain ⟨t9, hl10, hf⟩ := b_bd hf
  refine t_X0_passHours_L3 hd hn1 hP _ _ _ _ _ _ _ hl10 ?_
  cases hf
  exact x_vret hP rfl dX0_passHours_34
def f_X0_nightIn (n1 : Nat) (x2 : Int32) (x3 : Int32) (M : Mem) : Option (Mem) :=
  (f_X3_copyFrom 38 n1 M).bind fun M2 =>
  (f_X0_passHours 38 x2 x3 (1 : Int32) M2).bind fun M4 =>
  some M4
set_option maxHeartbeats 1000000 in
set_option maxRecDepth 20000 in
theorem t_X0_nightIn {g : GG} {d : Nat} (hd : 6 ≤ d) {n1 : Nat} (hn1 : isN n1) {x2 : Int32} {x3 : Int32} {M : Mem} {M' : Mem} (hf : f_X0_nightIn n1 x2 x3 M = some M') : ExM g d iX0_nightIn [.ref 34, .ref n1, .int x2, .int x3] LAY M (some (.ref 38), LAY, M') := by
  have hd1 : 1 ≤ d := by omega
  refine ExM.main pnX0 rfl (ls := [some (.ref 34), some (.ref n1), some (.int x2), some (.int x3)]) rfl ?_
  intro P hP
  rw [f_X0_nightIn] at hf
  refine x_aload_n hP dX0_nightIn_0 rfl ?_
  refine x_getO hP fX0_23 lay34 (r := 38) rfl dX0_nightIn_1 ?_
  refine x_aload_n hP dX0_nightIn_4 rfl ?_
  obtain ⟨M2, hc1, hf⟩ := b_bd hf
  refine y_cvv hP oX3_copyFrom lX0_45 [.ref n1] [] rfl rfl rfl lay38 dX0_nightIn_5 (t_X3_copyFrom (d := d - 1) (by omega) isN_38 hn1 hc1) (by omega) ?_
  refine x_aload_n hP dX0_nightIn_8 rfl ?_
  refine x_aload_n hP dX0_nightIn_9 rfl ?_
  refine x_getO hP fX0_23 lay34 (r := 38) rfl dX0_nightIn_10 ?_
  refine x_iload_n hP dX0_nightIn_13 rfl ?_
  refine x_iload_n hP dX0_nightIn_14 rfl ?_
  refine x_iconst hP dX0_nightIn_15 (v := 1) rfl ?_
  obtain ⟨M4, hc3, hf⟩ := b_bd hf
  refine y_cvv hP oX0_passHours lX0_49 [.ref 38, .int x2, .int x3, .int (1 : Int32)] [] rfl rfl rfl lay34 dX0_nightIn_16 (t_X0_passHours (d := d - 1) (by omega) isN_38 hc3) (by omega) ?_
  refine x_aload_n hP dX0_nightIn_19 rfl ?_
  refine x_getO hP fX0_23 lay34 (r := 38) rfl dX0_nightIn_20 ?_
  cases hf
  exact x_aret hP rfl dX0_nightIn_23
def f_X0_hoursTillDark_L10 (n1 : Nat) (k : Mem → Option (Int32 × Mem)) : Nat → Int32 → Int32 → Mem → Option (Int32 × Mem)
  | 0, _, _, _ => none
  | fu + 1, l2, l3, M =>
    if (100 : Int32) < l3 then
      k M
    else
      (f_X3_isLit 38 l2 M).bind fun v5 =>
      if v5 = 0 then
        some (l3, M)
      else
        (f_X0_passHours 38 (1 : Int32) (0 : Int32) (0 : Int32) M).bind fun M8 =>
        lt (l3 + 1 : Int32) fun v9 =>
        f_X0_hoursTillDark_L10 n1 k fu l2 v9 M8
def f_X0_hoursTillDark (n1 : Nat) (x2 : Int32) (M : Mem) : Option (Int32 × Mem) :=
  (f_X3_copyFrom 38 n1 M).bind fun M2 =>
  f_X0_hoursTillDark_L10 n1 (fun t10 =>
      some ((-2 : Int32), t10)
    ) FU x2 (0 : Int32) M2
set_option maxHeartbeats 1000000 in
set_option maxRecDepth 20000 in
theorem t_X0_hoursTillDark_L10 {g : GG} {d : Nat} {P : PT} {r : Int32} {M' : Mem} (hd : 6 ≤ d) {n1 : Nat} (hn1 : isN n1) {l2 : Int32} (hP : IsM g iX0_hoursTillDark d (some (some (.int r), LAY, M')) P) {k : Mem → Option (Int32 × Mem)} (hk : ∀ t : Mem, k t = some (r, M') → P 46 [none, none, none, none] [] LAY t) : ∀ (fu : Nat) (l3 : Int32) (M : Mem), f_X0_hoursTillDark_L10 n1 k fu l2 l3 M = some (r, M') → P 10 [some (.ref 34), none, some (.int l2), some (.int l3)] [] LAY M := by
  have hd1 : 1 ≤ d := by omega
  intro fu
  induction fu with
  | zero => intro l3 M hf; simp [f_X0_hoursTillDark_L10] at hf
  | succ fu ih =>
    intro l3 M hf
    rw [f_X0_hoursTillDark_L10] at hf
    refine x_iload_n hP dX0_hoursTillDark_10 rfl ?_
    refine x_bipush hP dX0_hoursTillDark_11 (v := 100) rfl ?_
    refine x_icmp_gt hP dX0_hoursTillDark_13 (tgt := 46) (by decide) (fun c3 => ?_) (fun c3 => ?_)
    · replace hf := p_t c3 hf
      refine x_drop hP [none, none, none, none] trivial ?_
      exact hk _ hf
    · replace hf := p_f c3 hf
      refine x_aload_n hP dX0_hoursTillDark_16 rfl ?_
      refine x_getO hP fX0_23 lay34 (r := 38) rfl dX0_hoursTillDark_17 ?_
      refine x_iload_n hP dX0_hoursTillDark_20 rfl ?_
      obtain ⟨v5, hc4, hf⟩ := b_bd hf
      refine y_cvi hP oX3_isLit lX0_53 [.int l2] [] rfl rfl rfl lay38 dX0_hoursTillDark_21 (t_X3_isLit (d := d - 1) (by omega) isN_38 hc4) (by omega) ?_
      refine x_if_ne hP dX0_hoursTillDark_24 (tgt := 29) (by decide) (fun c6 => ?_) (fun c6 => ?_)
      · replace hf := p_f c6 hf
        refine x_aload_n hP dX0_hoursTillDark_29 rfl ?_
        refine x_aload_n hP dX0_hoursTillDark_30 rfl ?_
        refine x_getO hP fX0_23 lay34 (r := 38) rfl dX0_hoursTillDark_31 ?_
        refine x_iconst hP dX0_hoursTillDark_34 (v := 1) rfl ?_
        refine x_iconst hP dX0_hoursTillDark_35 (v := 0) rfl ?_
        refine x_iconst hP dX0_hoursTillDark_36 (v := 0) rfl ?_
        obtain ⟨M8, hc7, hf⟩ := b_bd hf
        refine y_cvv hP oX0_passHours lX0_49 [.ref 38, .int (1 : Int32), .int (0 : Int32), .int (0 : Int32)] [] rfl rfl rfl lay34 dX0_hoursTillDark_37 (t_X0_passHours (d := d - 1) (by omega) isN_38 hc7) (by omega) ?_
        obtain ⟨v9, hv9, hf⟩ := b_lt hf
        refine x_iinc hP (v := v9) (ls2 := [some (.ref 34), none, some (.int l2), some (.int v9)]) dX0_hoursTillDark_40 rfl (by rw [hv9]; rfl) rfl rfl ?_
        refine x_goto hP dX0_hoursTillDark_43 (tgt := 10) (by decide) ?_
        refine x_drop hP [some (.ref 34), none, some (.int l2), some (.int v9)] (And.intro rfl (And.intro rfl (And.intro rfl trivial))) ?_
        exact ih _ _ hf
      · replace hf := p_t c6 hf
        refine x_iload_n hP dX0_hoursTillDark_27 rfl ?_
        cases hf
        exact x_iret hP rfl dX0_hoursTillDark_28
set_option maxHeartbeats 1000000 in
set_option maxRecDepth 20000 in
theorem t_X0_hoursTillDark {g : GG} {d : Nat} (hd : 6 ≤ d) {n1 : Nat} (hn1 : isN n1) {x2 : Int32} {M : Mem} {r : Int32} {M' : Mem} (hf : f_X0_hoursTillDark n1 x2 M = some (r, M')) : ExM g d iX0_hoursTillDark [.ref 34, .ref n1, .int x2] LAY M (some (.int r), LAY, M') := by
  have hd1 : 1 ≤ d := by omega
  refine ExM.main pnX0 rfl (ls := [some (.ref 34), some (.ref n1), some (.int x2), none]) rfl ?_
  intro P hP
  rw [f_X0_hoursTillDark] at hf
  refine x_aload_n hP dX0_hoursTillDark_0 rfl ?_
  refine x_getO hP fX0_23 lay34 (r := 38) rfl dX0_hoursTillDark_1 ?_
  refine x_aload_n hP dX0_hoursTillDark_4 rfl ?_
  obtain ⟨M2, hc1, hf⟩ := b_bd hf
  refine y_cvv hP oX3_copyFrom lX0_45 [.ref n1] [] rfl rfl rfl lay38 dX0_hoursTillDark_5 (t_X3_copyFrom (d := d - 1) (by omega) isN_38 hn1 hc1) (by omega) ?_
  refine x_iconst hP dX0_hoursTillDark_8 (v := 0) rfl ?_
  refine x_istore_n hP (ls2 := [some (.ref 34), some (.ref n1), some (.int x2), some (.int (0 : Int32))]) dX0_hoursTillDark_9 rfl rfl rfl ?_
  refine x_drop hP [some (.ref 34), none, some (.int x2), some (.int (0 : Int32))] (And.intro rfl (And.intro rfl (And.intro rfl trivial))) ?_
  refine t_X0_hoursTillDark_L10 hd hn1 hP (fun t10 hf => ?_) _ _ _ hf
  refine x_bipush hP dX0_hoursTillDark_46 (v := (-2)) rfl ?_
  cases hf
  exact x_iret hP rfl dX0_hoursTillDark_48

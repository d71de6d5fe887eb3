-- by program: wip/whole/gen/build_parts.py
def f_X10_measure_L32 (t1 : Nat) : Nat → Int32 → Int32 → Int32 → Mem → Option (Mem)
  | 0, _, _, _, _ => none
  | fu + 1, l3, l4, l5, M =>
    if M.1 t1 11 ≤ l5 then
      some M
    else
      lt ((1 : Int32) - ((l3 >>> (l5 &&& 31)) &&& (1 : Int32)) : Int32) fun v6 =>
      (ag M (t1 + 1) 10 l5).bind fun v7 =>
      (ag M (t1 + 2) 10 l5).bind fun v8 =>
      (ag M 46 7 v7).bind fun v9 =>
      (ag M 46 7 v8).bind fun v10 =>
      lt (if v10 + v6 < v9 then v10 + v6 else v9 : Int32) fun v11 =>
      (pg M 46 7 v7 v11).bind fun M12 =>
      (ag M12 46 7 v8).bind fun v13 =>
      (ag M12 46 7 v7).bind fun v14 =>
      lt (if v14 + v6 < v13 then v14 + v6 else v13 : Int32) fun v15 =>
      (pg M12 46 7 v8 v15).bind fun M16 =>
      lt (l5 + 1 : Int32) fun v17 =>
      f_X10_measure_L32 t1 fu l3 l4 v17 M16
def f_X10_measure_L20 (t1 : Nat) : Nat → Int32 → Int32 → Mem → Option (Mem)
  | 0, _, _, _ => none
  | fu + 1, l3, l4, M =>
    if M.1 t1 10 ≤ l4 then
      some M
    else
      (f_X10_measure_L32 t1 FU l3 l4 (0 : Int32) M).bind fun t18 =>
      lt (l4 + 1 : Int32) fun v20 =>
      f_X10_measure_L20 t1 fu l3 v20 t18
def f_X10_measure (t1 : Nat) (x2 : Int32) (x3 : Int32) (M : Mem) : Option (Mem) :=
  (f_J7_fill_53178 46 7 (1000 : Int32) M).bind fun M2 =>
  (pg M2 46 7 x2 (0 : Int32)).bind fun M3 =>
  (f_X10_measure_L20 t1 FU x3 (1 : Int32) M3).bind fun t21 =>
  some t21
set_option maxHeartbeats 1000000 in
set_option maxRecDepth 20000 in
theorem t_X10_measure_L32 {g : GG} {d : Nat} {P : PT} {res : Option RS} (hd : 2 ≤ d) {t1 : Nat} (ht1 : isT t1) (hP : IsM g iX10_measure d res P) : ∀ (fu : Nat) (l3 : Int32) (l4 : Int32) (l5 : Int32) (M : Mem) (t : Mem), f_X10_measure_L32 t1 fu l3 l4 l5 M = some t → P 129 [some (.ref 45), some (.ref t1), none, some (.int l3), some (.int l4), none, none, none, none] [] LAY t → P 32 [some (.ref 45), some (.ref t1), none, some (.int l3), some (.int l4), some (.int l5), none, none, none] [] LAY M := by
  have hd1 : 1 ≤ d := by omega
  intro fu
  induction fu with
  | zero => intro l3 l4 l5 M t hf; simp [f_X10_measure_L32] at hf
  | succ fu ih =>
    intro l3 l4 l5 M t hf hx
    rw [f_X10_measure_L32] at hf
    refine x_iload hP dX10_measure_32 rfl ?_
    refine x_aload_n hP dX10_measure_34 rfl ?_
    refine x_getI hP fX10_28 (layT ht1) dX10_measure_35 ?_
    refine x_icmp_ge hP dX10_measure_38 (tgt := 129) (by decide) (fun c5 => ?_) (fun c5 => ?_)
    · replace hf := p_t c5 hf
      refine x_drop hP [some (.ref 45), some (.ref t1), none, some (.int l3), some (.int l4), none, none, none, none] (And.intro rfl (And.intro rfl (And.intro rfl (And.intro rfl trivial)))) ?_
      cases hf
      exact hx
    · replace hf := p_f c5 hf
      refine x_iconst hP dX10_measure_41 (v := 1) rfl ?_
      refine x_iload_n hP dX10_measure_42 rfl ?_
      refine x_iload hP dX10_measure_43 rfl ?_
      refine x_ishr hP dX10_measure_45 ?_
      refine x_iconst hP dX10_measure_46 (v := 1) rfl ?_
      refine x_iand hP dX10_measure_47 ?_
      refine x_isub hP dX10_measure_48 ?_
      obtain ⟨v6, hv6, hf⟩ := b_lt hf
      refine y_nmI hv6 ?_
      refine x_istore hP (ls2 := [some (.ref 45), some (.ref t1), none, some (.int l3), some (.int l4), some (.int l5), some (.int v6), none, none]) dX10_measure_49 rfl rfl ?_
      refine x_aload_n hP dX10_measure_51 rfl ?_
      refine x_getA hP fX10_31 (layT ht1) (r := t1 + 1) rfl dX10_measure_52 ?_
      refine x_iload hP dX10_measure_55 rfl ?_
      obtain ⟨v7, hiv7, hv7, hf⟩ := b_ag hf
      refine y_ald hP (layT_1 ht1) hiv7 hv7 dX10_measure_57 ?_
      refine x_istore hP (ls2 := [some (.ref 45), some (.ref t1), none, some (.int l3), some (.int l4), some (.int l5), some (.int v6), some (.int v7), none]) dX10_measure_58 rfl rfl ?_
      refine x_aload_n hP dX10_measure_60 rfl ?_
      refine x_getA hP fX10_34 (layT ht1) (r := t1 + 2) rfl dX10_measure_61 ?_
      refine x_iload hP dX10_measure_64 rfl ?_
      obtain ⟨v8, hiv8, hv8, hf⟩ := b_ag hf
      refine y_ald hP (layT_2 ht1) hiv8 hv8 dX10_measure_66 ?_
      refine x_istore hP (ls2 := [some (.ref 45), some (.ref t1), none, some (.int l3), some (.int l4), some (.int l5), some (.int v6), some (.int v7), some (.int v8)]) dX10_measure_67 rfl rfl ?_
      refine x_aload_n hP dX10_measure_69 rfl ?_
      refine x_getA hP fX10_9 lay45 (r := 46) rfl dX10_measure_70 ?_
      refine x_iload hP dX10_measure_73 rfl ?_
      refine x_aload_n hP dX10_measure_75 rfl ?_
      refine x_getA hP fX10_9 lay45 (r := 46) rfl dX10_measure_76 ?_
      refine x_iload hP dX10_measure_79 rfl ?_
      obtain ⟨v9, hiv9, hv9, hf⟩ := b_ag hf
      refine y_ald hP lay46 hiv9 hv9 dX10_measure_81 ?_
      refine x_aload_n hP dX10_measure_82 rfl ?_
      refine x_getA hP fX10_9 lay45 (r := 46) rfl dX10_measure_83 ?_
      refine x_iload hP dX10_measure_86 rfl ?_
      obtain ⟨v10, hiv10, hv10, hf⟩ := b_ag hf
      refine y_ald hP lay46 hiv10 hv10 dX10_measure_88 ?_
      refine x_iload hP dX10_measure_89 rfl ?_
      refine x_iadd hP dX10_measure_91 ?_
      refine y_min hP lX10_75 rfl hd1 dX10_measure_92 ?_
      obtain ⟨v11, hv11, hf⟩ := b_lt hf
      refine y_nmI hv11 ?_
      obtain ⟨M12, hiM12, hM12, hf⟩ := b_pg hf
      refine y_ast hP lay46 hiM12 hM12 dX10_measure_95 ?_
      refine x_aload_n hP dX10_measure_96 rfl ?_
      refine x_getA hP fX10_9 lay45 (r := 46) rfl dX10_measure_97 ?_
      refine x_iload hP dX10_measure_100 rfl ?_
      refine x_aload_n hP dX10_measure_102 rfl ?_
      refine x_getA hP fX10_9 lay45 (r := 46) rfl dX10_measure_103 ?_
      refine x_iload hP dX10_measure_106 rfl ?_
      obtain ⟨v13, hiv13, hv13, hf⟩ := b_ag hf
      refine y_ald hP lay46 hiv13 hv13 dX10_measure_108 ?_
      refine x_aload_n hP dX10_measure_109 rfl ?_
      refine x_getA hP fX10_9 lay45 (r := 46) rfl dX10_measure_110 ?_
      refine x_iload hP dX10_measure_113 rfl ?_
      obtain ⟨v14, hiv14, hv14, hf⟩ := b_ag hf
      refine y_ald hP lay46 hiv14 hv14 dX10_measure_115 ?_
      refine x_iload hP dX10_measure_116 rfl ?_
      refine x_iadd hP dX10_measure_118 ?_
      refine y_min hP lX10_75 rfl hd1 dX10_measure_119 ?_
      obtain ⟨v15, hv15, hf⟩ := b_lt hf
      refine y_nmI hv15 ?_
      obtain ⟨M16, hiM16, hM16, hf⟩ := b_pg hf
      refine y_ast hP lay46 hiM16 hM16 dX10_measure_122 ?_
      obtain ⟨v17, hv17, hf⟩ := b_lt hf
      refine x_iinc hP (v := v17) (ls2 := [some (.ref 45), some (.ref t1), none, some (.int l3), some (.int l4), some (.int v17), some (.int v6), some (.int v7), some (.int v8)]) dX10_measure_123 rfl (by rw [hv17]; rfl) rfl rfl ?_
      refine x_goto hP dX10_measure_126 (tgt := 32) (by decide) ?_
      refine x_drop hP [some (.ref 45), some (.ref t1), none, some (.int l3), some (.int l4), some (.int v17), none, none, none] (And.intro rfl (And.intro rfl (And.intro rfl (And.intro rfl (And.intro rfl trivial))))) ?_
      exact ih _ _ _ _ _ hf hx
set_option maxHeartbeats 1000000 in
set_option maxRecDepth 20000 in
theorem t_X10_measure_L20 {g : GG} {d : Nat} {P : PT} {res : Option RS} (hd : 2 ≤ d) {t1 : Nat} (ht1 : isT t1) (hP : IsM g iX10_measure d res P) : ∀ (fu : Nat) (l3 : Int32) (l4 : Int32) (M : Mem) (t : Mem), f_X10_measure_L20 t1 fu l3 l4 M = some t → P 135 [none, none, none, none, none, none, none, none, none] [] LAY t → P 20 [some (.ref 45), some (.ref t1), none, some (.int l3), some (.int l4), none, none, none, none] [] LAY M := by
  have hd1 : 1 ≤ d := by omega
  intro fu
  induction fu with
  | zero => intro l3 l4 M t hf; simp [f_X10_measure_L20] at hf
  | succ fu ih =>
    intro l3 l4 M t hf hx
    rw [f_X10_measure_L20] at hf
    refine x_iload hP dX10_measure_20 rfl ?_
    refine x_aload_n hP dX10_measure_22 rfl ?_
    refine x_getI hP fX10_22 (layT ht1) dX10_measure_23 ?_
    refine x_icmp_ge hP dX10_measure_26 (tgt := 135) (by decide) (fun c4 => ?_) (fun c4 => ?_)
    · replace hf := p_t c4 hf
      refine x_drop hP [none, none, none, none, none, none, none, none, none] trivial ?_
      cases hf
      exact hx
    · replace hf := p_f c4 hf
      refine x_iconst hP dX10_measure_29 (v := 0) rfl ?_
      refine x_istore hP (ls2 := [some (.ref 45), some (.ref t1), none, some (.int l3), some (.int l4), some (.int (0 : Int32)), none, none, none]) dX10_measure_30 rfl rfl ?_
      refine x_drop hP [some (.ref 45), some (.ref t1), none, some (.int l3), some (.int l4), some (.int (0 : Int32)), none, none, none] (And.intro rfl (And.intro rfl (And.intro rfl (And.intro rfl (And.intro rfl trivial))))) ?_
      obtain ⟨t18, hl19, hf⟩ := b_bd hf
      refine t_X10_measure_L32 hd ht1 hP _ _ _ _ _ _ hl19 ?_
      obtain ⟨v20, hv20, hf⟩ := b_lt hf
      refine x_iinc hP (v := v20) (ls2 := [some (.ref 45), some (.ref t1), none, some (.int l3), some (.int v20), none, none, none, none]) dX10_measure_129 rfl (by rw [hv20]; rfl) rfl rfl ?_
      refine x_goto hP dX10_measure_132 (tgt := 20) (by decide) ?_
      refine x_drop hP [some (.ref 45), some (.ref t1), none, some (.int l3), some (.int v20), none, none, none, none] (And.intro rfl (And.intro rfl (And.intro rfl (And.intro rfl trivial)))) ?_
      exact ih _ _ _ _ hf hx
set_option maxHeartbeats 1000000 in
set_option maxRecDepth 20000 in
theorem t_X10_measure {g : GG} {d : Nat} (hd : 2 ≤ d) {t1 : Nat} (ht1 : isT t1) {x2 : Int32} {x3 : Int32} {M : Mem} {M' : Mem} (hf : f_X10_measure t1 x2 x3 M = some M') : ExM g d iX10_measure [.ref 45, .ref t1, .int x2, .int x3] LAY M (none, LAY, M') := by
  have hd1 : 1 ≤ d := by omega
  refine ExM.main pnX10 rfl (ls := [some (.ref 45), some (.ref t1), some (.int x2), some (.int x3), none, none, none, none, none]) rfl ?_
  intro P hP
  rw [f_X10_measure] at hf
  refine x_aload_n hP dX10_measure_0 rfl ?_
  refine x_getA hP fX10_9 lay45 (r := 46) rfl dX10_measure_1 ?_
  refine x_sipush hP dX10_measure_4 (v := 1000) rfl ?_
  obtain ⟨M2, hc1, hf⟩ := b_bd hf
  refine y_csv hP oJ7_fill_53178 lX10_88 [.ref 46, .int (1000 : Int32)] [] rfl rfl rfl dX10_measure_7 (t_J7_fill_53178 (d := d - 1) (by omega) lay46 hc1) (by omega) ?_
  refine x_aload_n hP dX10_measure_10 rfl ?_
  refine x_getA hP fX10_9 lay45 (r := 46) rfl dX10_measure_11 ?_
  refine x_iload_n hP dX10_measure_14 rfl ?_
  refine x_iconst hP dX10_measure_15 (v := 0) rfl ?_
  obtain ⟨M3, hiM3, hM3, hf⟩ := b_pg hf
  refine y_ast hP lay46 hiM3 hM3 dX10_measure_16 ?_
  refine x_iconst hP dX10_measure_17 (v := 1) rfl ?_
  refine x_istore hP (ls2 := [some (.ref 45), some (.ref t1), some (.int x2), some (.int x3), some (.int (1 : Int32)), none, none, none, none]) dX10_measure_18 rfl rfl ?_
  refine x_drop hP [some (.ref 45), some (.ref t1), none, some (.int x3), some (.int (1 : Int32)), none, none, none, none] (And.intro rfl (And.intro rfl (And.intro rfl (And.intro rfl trivial)))) ?_
  obtain ⟨t21, hl22, hf⟩ := b_bd hf
  refine t_X10_measure_L20 hd ht1 hP _ _ _ _ _ hl22 ?_
  cases hf
  exact x_vret hP rfl dX10_measure_135
def f_X10_fewest (t1 : Nat) (x2 : Int32) (x3 : Int32) (x4 : Int32) (M : Mem) : Option (Int32 × Mem) :=
  (f_X10_measure t1 x2 x4 M).bind fun M2 =>
  (ag M2 46 7 x3).bind fun v3 =>
  if v3 < (1000 : Int32) then
    (ag M2 46 7 x3).bind fun v5 =>
    some (v5, M2)
  else
    some ((-2 : Int32), M2)
set_option maxHeartbeats 1000000 in
set_option maxRecDepth 20000 in
theorem t_X10_fewest {g : GG} {d : Nat} (hd : 3 ≤ d) {t1 : Nat} (ht1 : isT t1) {x2 : Int32} {x3 : Int32} {x4 : Int32} {M : Mem} {r : Int32} {M' : Mem} (hf : f_X10_fewest t1 x2 x3 x4 M = some (r, M')) : ExM g d iX10_fewest [.ref 45, .ref t1, .int x2, .int x3, .int x4] LAY M (some (.int r), LAY, M') := by
  have hd1 : 1 ≤ d := by omega
  refine ExM.main pnX10 rfl (ls := [some (.ref 45), some (.ref t1), some (.int x2), some (.int x3), some (.int x4)]) rfl ?_
  intro P hP
  rw [f_X10_fewest] at hf
  refine x_aload_n hP dX10_fewest_0 rfl ?_
  refine x_aload_n hP dX10_fewest_1 rfl ?_
  refine x_iload_n hP dX10_fewest_2 rfl ?_
  refine x_iload hP dX10_fewest_3 rfl ?_
  obtain ⟨M2, hc1, hf⟩ := b_bd hf
  refine y_cvv hP oX10_measure lX10_18 [.ref t1, .int x2, .int x4] [] rfl rfl rfl lay45 dX10_fewest_5 (t_X10_measure (d := d - 1) (by omega) ht1 hc1) (by omega) ?_
  refine x_aload_n hP dX10_fewest_8 rfl ?_
  refine x_getA hP fX10_9 lay45 (r := 46) rfl dX10_fewest_9 ?_
  refine x_iload_n hP dX10_fewest_12 rfl ?_
  obtain ⟨v3, hiv3, hv3, hf⟩ := b_ag hf
  refine y_ald hP lay46 hiv3 hv3 dX10_fewest_13 ?_
  refine x_sipush hP dX10_fewest_14 (v := 1000) rfl ?_
  refine x_icmp_lt hP dX10_fewest_17 (tgt := 25) (by decide) (fun c4 => ?_) (fun c4 => ?_)
  · replace hf := p_t c4 hf
    refine x_aload_n hP dX10_fewest_25 rfl ?_
    refine x_getA hP fX10_9 lay45 (r := 46) rfl dX10_fewest_26 ?_
    refine x_iload_n hP dX10_fewest_29 rfl ?_
    obtain ⟨v5, hiv5, hv5, hf⟩ := b_ag hf
    refine y_ald hP lay46 hiv5 hv5 dX10_fewest_30 ?_
    cases hf
    exact x_iret hP rfl dX10_fewest_31
  · replace hf := p_f c4 hf
    refine x_bipush hP dX10_fewest_20 (v := (-2)) rfl ?_
    refine x_goto hP dX10_fewest_22 (tgt := 31) (by decide) ?_
    cases hf
    exact x_iret hP rfl dX10_fewest_31
def f_X10_reached_L13 (t1 : Nat) : Nat → Int32 → Int32 → Mem → Option (Int32)
  | 0, _, _, _ => none
  | fu + 1, l4, l5, M =>
    if M.1 t1 10 ≤ l5 then
      some l4
    else
      (ag M 46 7 l5).bind fun v4 =>
      if v4 = 0 then
        lt (l4 ||| ((1 : Int32) <<< (l5 &&& 31)) : Int32) fun v6 =>
        lt (l5 + 1 : Int32) fun v7 =>
        f_X10_reached_L13 t1 fu v6 v7 M
      else
        lt (l5 + 1 : Int32) fun v8 =>
        f_X10_reached_L13 t1 fu l4 v8 M
def f_X10_reached (t1 : Nat) (x2 : Int32) (x3 : Int32) (M : Mem) : Option (Int32 × Mem) :=
  (f_X10_measure t1 x2 x3 M).bind fun M2 =>
  (f_X10_reached_L13 t1 FU (0 : Int32) (0 : Int32) M2).bind fun t9 =>
  some (t9, M2)
set_option maxHeartbeats 1000000 in
set_option maxRecDepth 20000 in
theorem t_X10_reached_L13 {g : GG} {d : Nat} {P : PT} {res : Option RS} (hd : 3 ≤ d) {t1 : Nat} (ht1 : isT t1) (hP : IsM g iX10_reached d res P) : ∀ (fu : Nat) (l4 : Int32) (l5 : Int32) (M : Mem) (t : Int32), f_X10_reached_L13 t1 fu l4 l5 M = some t → P 47 [none, none, none, none, some (.int t), none] [] LAY M → P 13 [some (.ref 45), some (.ref t1), none, none, some (.int l4), some (.int l5)] [] LAY M := by
  have hd1 : 1 ≤ d := by omega
  intro fu
  induction fu with
  | zero => intro l4 l5 M t hf; simp [f_X10_reached_L13] at hf
  | succ fu ih =>
    intro l4 l5 M t hf hx
    rw [f_X10_reached_L13] at hf
    refine x_iload hP dX10_reached_13 rfl ?_
    refine x_aload_n hP dX10_reached_15 rfl ?_
    refine x_getI hP fX10_22 (layT ht1) dX10_reached_16 ?_
    refine x_icmp_ge hP dX10_reached_19 (tgt := 47) (by decide) (fun c3 => ?_) (fun c3 => ?_)
    · replace hf := p_t c3 hf
      refine x_drop hP [none, none, none, none, some (.int l4), none] (And.intro rfl trivial) ?_
      cases hf
      exact hx
    · replace hf := p_f c3 hf
      refine x_aload_n hP dX10_reached_22 rfl ?_
      refine x_getA hP fX10_9 lay45 (r := 46) rfl dX10_reached_23 ?_
      refine x_iload hP dX10_reached_26 rfl ?_
      obtain ⟨v4, hiv4, hv4, hf⟩ := b_ag hf
      refine y_ald hP lay46 hiv4 hv4 dX10_reached_28 ?_
      refine x_if_ne hP dX10_reached_29 (tgt := 41) (by decide) (fun c5 => ?_) (fun c5 => ?_)
      · replace hf := p_f c5 hf
        obtain ⟨v8, hv8, hf⟩ := b_lt hf
        refine x_iinc hP (v := v8) (ls2 := [some (.ref 45), some (.ref t1), none, none, some (.int l4), some (.int v8)]) dX10_reached_41 rfl (by rw [hv8]; rfl) rfl rfl ?_
        refine x_goto hP dX10_reached_44 (tgt := 13) (by decide) ?_
        refine x_drop hP [some (.ref 45), some (.ref t1), none, none, some (.int l4), some (.int v8)] (And.intro rfl (And.intro rfl (And.intro rfl (And.intro rfl trivial)))) ?_
        exact ih _ _ _ _ hf hx
      · replace hf := p_t c5 hf
        refine x_iload hP dX10_reached_32 rfl ?_
        refine x_iconst hP dX10_reached_34 (v := 1) rfl ?_
        refine x_iload hP dX10_reached_35 rfl ?_
        refine x_ishl hP dX10_reached_37 ?_
        refine x_ior hP dX10_reached_38 ?_
        obtain ⟨v6, hv6, hf⟩ := b_lt hf
        refine y_nmI hv6 ?_
        refine x_istore hP (ls2 := [some (.ref 45), some (.ref t1), none, none, some (.int v6), some (.int l5)]) dX10_reached_39 rfl rfl ?_
        obtain ⟨v7, hv7, hf⟩ := b_lt hf
        refine x_iinc hP (v := v7) (ls2 := [some (.ref 45), some (.ref t1), none, none, some (.int v6), some (.int v7)]) dX10_reached_41 rfl (by rw [hv7]; rfl) rfl rfl ?_
        refine x_goto hP dX10_reached_44 (tgt := 13) (by decide) ?_
        refine x_drop hP [some (.ref 45), some (.ref t1), none, none, some (.int v6), some (.int v7)] (And.intro rfl (And.intro rfl (And.intro rfl (And.intro rfl trivial)))) ?_
        exact ih _ _ _ _ hf hx
set_option maxHeartbeats 1000000 in
set_option maxRecDepth 20000 in
theorem t_X10_reached {g : GG} {d : Nat} (hd : 3 ≤ d) {t1 : Nat} (ht1 : isT t1) {x2 : Int32} {x3 : Int32} {M : Mem} {r : Int32} {M' : Mem} (hf : f_X10_reached t1 x2 x3 M = some (r, M')) : ExM g d iX10_reached [.ref 45, .ref t1, .int x2, .int x3] LAY M (some (.int r), LAY, M') := by
  have hd1 : 1 ≤ d := by omega
  refine ExM.main pnX10 rfl (ls := [some (.ref 45), some (.ref t1), some (.int x2), some (.int x3), none, none]) rfl ?_
  intro P hP
  rw [f_X10_reached] at hf
  refine x_aload_n hP dX10_reached_0 rfl ?_
  refine x_aload_n hP dX10_reached_1 rfl ?_
  refine x_iload_n hP dX10_reached_2 rfl ?_
  refine x_iload_n hP dX10_reached_3 rfl ?_
  obtain ⟨M2, hc1, hf⟩ := b_bd hf
  refine y_cvv hP oX10_measure lX10_18 [.ref t1, .int x2, .int x3] [] rfl rfl rfl lay45 dX10_reached_4 (t_X10_measure (d := d - 1) (by omega) ht1 hc1) (by omega) ?_
  refine x_iconst hP dX10_reached_7 (v := 0) rfl ?_
  refine x_istore hP (ls2 := [some (.ref 45), some (.ref t1), some (.int x2), some (.int x3), some (.int (0 : Int32)), none]) dX10_reached_8 rfl rfl ?_
  refine x_iconst hP dX10_reached_10 (v := 0) rfl ?_
  refine x_istore hP (ls2 := [some (.ref 45), some (.ref t1), some (.int x2), some (.int x3), some (.int (0 : Int32)), some (.int (0 : Int32))]) dX10_reached_11 rfl rfl ?_
  refine x_drop hP [some (.ref 45), some (.ref t1), none, none, some (.int (0 : Int32)), some (.int (0 : Int32))] (And.intro rfl (And.intro rfl (And.intro rfl (And.intro rfl trivial)))) ?_
  obtain ⟨t9, hl10, hf⟩ := b_bd hf
  refine t_X10_reached_L13 hd ht1 hP _ _ _ _ _ hl10 ?_
  refine x_iload hP dX10_reached_47 rfl ?_
  cases hf
  exact x_iret hP rfl dX10_reached_49
def f_X10_onlyWays_L5 (t1 : Nat) : Nat → Int32 → Int32 → Int32 → Mem → Option (Int32 × Mem)
  | 0, _, _, _, _ => none
  | fu + 1, l2, l3, l4, M =>
    if M.1 t1 11 ≤ l4 then
      some (l3, M)
    else
      lt ((1 : Int32) <<< (l4 &&& 31) : Int32) fun v2 =>
      if l2 &&& v2 = 0 then
        lt (l4 + 1 : Int32) fun v4 =>
        f_X10_onlyWays_L5 t1 fu l2 l3 v4 M
      else
        (ag M (t1 + 1) 10 l4).bind fun v5 =>
        (ag M (t1 + 2) 10 l4).bind fun v6 =>
        (f_X10_fewest t1 v5 v6 (l2 &&& (v2 ^^^ (-1 : Int32))) M).bind fun t8 =>
        if t8.1 = 0 then
          lt (l4 + 1 : Int32) fun v10 =>
          f_X10_onlyWays_L5 t1 fu l2 l3 v10 t8.2
        else
          lt (l3 ||| v2 : Int32) fun v11 =>
          lt (l4 + 1 : Int32) fun v12 =>
          f_X10_onlyWays_L5 t1 fu l2 v11 v12 t8.2
def f_X10_onlyWays (t1 : Nat) (x2 : Int32) (M : Mem) : Option (Int32 × Mem) :=
  (f_X10_onlyWays_L5 t1 FU x2 (0 : Int32) (0 : Int32) M).bind fun t13 =>
  some (t13.1, t13.2)
set_option maxHeartbeats 1000000 in
set_option maxRecDepth 20000 in
theorem t_X10_onlyWays_L5 {g : GG} {d : Nat} {P : PT} {res : Option RS} (hd : 4 ≤ d) {t1 : Nat} (ht1 : isT t1) (hP : IsM g iX10_onlyWays d res P) : ∀ (fu : Nat) (l2 : Int32) (l3 : Int32) (l4 : Int32) (M : Mem) (t : Int32 × Mem), f_X10_onlyWays_L5 t1 fu l2 l3 l4 M = some t → P 66 [none, none, none, some (.int t.1), none, none] [] LAY t.2 → P 5 [some (.ref 45), some (.ref t1), some (.int l2), some (.int l3), some (.int l4), none] [] LAY M := by
  have hd1 : 1 ≤ d := by omega
  intro fu
  induction fu with
  | zero => intro l2 l3 l4 M t hf; simp [f_X10_onlyWays_L5] at hf
  | succ fu ih =>
    intro l2 l3 l4 M t hf hx
    rw [f_X10_onlyWays_L5] at hf
    refine x_iload hP dX10_onlyWays_5 rfl ?_
    refine x_aload_n hP dX10_onlyWays_7 rfl ?_
    refine x_getI hP fX10_28 (layT ht1) dX10_onlyWays_8 ?_
    refine x_icmp_ge hP dX10_onlyWays_11 (tgt := 66) (by decide) (fun c1 => ?_) (fun c1 => ?_)
    · replace hf := p_t c1 hf
      refine x_drop hP [none, none, none, some (.int l3), none, none] (And.intro rfl trivial) ?_
      cases hf
      exact hx
    · replace hf := p_f c1 hf
      refine x_iconst hP dX10_onlyWays_14 (v := 1) rfl ?_
      refine x_iload hP dX10_onlyWays_15 rfl ?_
      refine x_ishl hP dX10_onlyWays_17 ?_
      obtain ⟨v2, hv2, hf⟩ := b_lt hf
      refine y_nmI hv2 ?_
      refine x_istore hP (ls2 := [some (.ref 45), some (.ref t1), some (.int l2), some (.int l3), some (.int l4), some (.int v2)]) dX10_onlyWays_18 rfl rfl ?_
      refine x_iload_n hP dX10_onlyWays_20 rfl ?_
      refine x_iload hP dX10_onlyWays_21 rfl ?_
      refine x_iand hP dX10_onlyWays_23 ?_
      refine x_if_eq hP dX10_onlyWays_24 (tgt := 60) (by decide) (fun c3 => ?_) (fun c3 => ?_)
      · replace hf := p_t c3 hf
        obtain ⟨v4, hv4, hf⟩ := b_lt hf
        refine x_iinc hP (v := v4) (ls2 := [some (.ref 45), some (.ref t1), some (.int l2), some (.int l3), some (.int v4), some (.int v2)]) dX10_onlyWays_60 rfl (by rw [hv4]; rfl) rfl rfl ?_
        refine x_goto hP dX10_onlyWays_63 (tgt := 5) (by decide) ?_
        refine x_drop hP [some (.ref 45), some (.ref t1), some (.int l2), some (.int l3), some (.int v4), none] (And.intro rfl (And.intro rfl (And.intro rfl (And.intro rfl (And.intro rfl trivial))))) ?_
        exact ih _ _ _ _ _ hf hx
      · replace hf := p_f c3 hf
        refine x_aload_n hP dX10_onlyWays_27 rfl ?_
        refine x_aload_n hP dX10_onlyWays_28 rfl ?_
        refine x_aload_n hP dX10_onlyWays_29 rfl ?_
        refine x_getA hP fX10_31 (layT ht1) (r := t1 + 1) rfl dX10_onlyWays_30 ?_
        refine x_iload hP dX10_onlyWays_33 rfl ?_
        obtain ⟨v5, hiv5, hv5, hf⟩ := b_ag hf
        refine y_ald hP (layT_1 ht1) hiv5 hv5 dX10_onlyWays_35 ?_
        refine x_aload_n hP dX10_onlyWays_36 rfl ?_
        refine x_getA hP fX10_34 (layT ht1) (r := t1 + 2) rfl dX10_onlyWays_37 ?_
        refine x_iload hP dX10_onlyWays_40 rfl ?_
        obtain ⟨v6, hiv6, hv6, hf⟩ := b_ag hf
        refine y_ald hP (layT_2 ht1) hiv6 hv6 dX10_onlyWays_42 ?_
        refine x_iload_n hP dX10_onlyWays_43 rfl ?_
        refine x_iload hP dX10_onlyWays_44 rfl ?_
        refine x_iconst hP dX10_onlyWays_46 (v := (-1)) rfl ?_
        refine x_ixor hP dX10_onlyWays_47 ?_
        refine x_iand hP dX10_onlyWays_48 ?_
        obtain ⟨t8, hc7, hf⟩ := b_bd hf
        refine y_cvi hP oX10_fewest lX10_37 [.ref t1, .int v5, .int v6, .int (l2 &&& (v2 ^^^ (-1 : Int32)))] [] rfl rfl rfl lay45 dX10_onlyWays_49 (t_X10_fewest (d := d - 1) (by omega) ht1 hc7) (by omega) ?_
        refine x_if_eq hP dX10_onlyWays_52 (tgt := 60) (by decide) (fun c9 => ?_) (fun c9 => ?_)
        · replace hf := p_t c9 hf
          obtain ⟨v10, hv10, hf⟩ := b_lt hf
          refine x_iinc hP (v := v10) (ls2 := [some (.ref 45), some (.ref t1), some (.int l2), some (.int l3), some (.int v10), some (.int v2)]) dX10_onlyWays_60 rfl (by rw [hv10]; rfl) rfl rfl ?_
          refine x_goto hP dX10_onlyWays_63 (tgt := 5) (by decide) ?_
          refine x_drop hP [some (.ref 45), some (.ref t1), some (.int l2), some (.int l3), some (.int v10), none] (And.intro rfl (And.intro rfl (And.intro rfl (And.intro rfl (And.intro rfl trivial))))) ?_
          exact ih _ _ _ _ _ hf hx
        · replace hf := p_f c9 hf
          refine x_iload_n hP dX10_onlyWays_55 rfl ?_
          refine x_iload hP dX10_onlyWays_56 rfl ?_
          refine x_ior hP dX10_onlyWays_58 ?_
          obtain ⟨v11, hv11, hf⟩ := b_lt hf
          refine y_nmI hv11 ?_
          refine x_istore_n hP (ls2 := [some (.ref 45), some (.ref t1), some (.int l2), some (.int v11), some (.int l4), some (.int v2)]) dX10_onlyWays_59 rfl rfl rfl ?_
          obtain ⟨v12, hv12, hf⟩ := b_lt hf
          refine x_iinc hP (v := v12) (ls2 := [some (.ref 45), some (.ref t1), some (.int l2), some (.int v11), some (.int v12), some (.int v2)]) dX10_onlyWays_60 rfl (by rw [hv12]; rfl) rfl rfl ?_
          refine x_goto hP dX10_onlyWays_63 (tgt := 5) (by decide) ?_
          refine x_drop hP [some (.ref 45), some (.ref t1), some (.int l2), some (.int v11), some (.int v12), none] (And.intro rfl (And.intro rfl (And.intro rfl (And.intro rfl (And.intro rfl trivial))))) ?_
          exact ih _ _ _ _ _ hf hx
set_option maxHeartbeats 1000000 in
set_option maxRecDepth 20000 in
theorem t_X10_onlyWays {g : GG} {d : Nat} (hd : 4 ≤ d) {t1 : Nat} (ht1 : isT t1) {x2 : Int32} {M : Mem} {r : Int32} {M' : Mem} (hf : f_X10_onlyWays t1 x2 M = some (r, M')) : ExM g d iX10_onlyWays [.ref 45, .ref t1, .int x2] LAY M (some (.int r), LAY, M') := by
  have hd1 : 1 ≤ d := by omega
  refine ExM.main pnX10 rfl (ls := [some (.ref 45), some (.ref t1), some (.int x2), none, none, none]) rfl ?_
  intro P hP
  rw [f_X10_onlyWays] at hf
  refine x_iconst hP dX10_onlyWays_0 (v := 0) rfl ?_
  refine x_istore_n hP (ls2 := [some (.ref 45), some (.ref t1), some (.int x2), some (.int (0 : Int32)), none, none]) dX10_onlyWays_1 rfl rfl rfl ?_
  refine x_iconst hP dX10_onlyWays_2 (v := 0) rfl ?_
  refine x_istore hP (ls2 := [some (.ref 45), some (.ref t1), some (.int x2), some (.int (0 : Int32)), some (.int (0 : Int32)), none]) dX10_onlyWays_3 rfl rfl ?_
  refine x_drop hP [some (.ref 45), some (.ref t1), some (.int x2), some (.int (0 : Int32)), some (.int (0 : Int32)), none] (And.intro rfl (And.intro rfl (And.intro rfl (And.intro rfl (And.intro rfl trivial))))) ?_
  obtain ⟨t13, hl14, hf⟩ := b_bd hf
  refine t_X10_onlyWays_L5 hd ht1 hP _ _ _ _ _ _ hl14 ?_
  refine x_iload_n hP dX10_onlyWays_66 rfl ?_
  cases hf
  exact x_iret hP rfl dX10_onlyWays_67
def f_X10_roundFrom_L30 (rr : Int32 → Int32 → Int32 → Mem → Option (Int32)) : Nat → Int32 → Int32 → Int32 → Int32 → Int32 → Mem → Option (Int32)
  | 0, _, _, _, _, _, _ => none
  | fu + 1, l1, l3, l4, l5, l6, M =>
    if (7 : Int32) ≤ l6 then
      some l5
    else
      if (l4 >>> (l6 &&& 31)) &&& (1 : Int32) = (1 : Int32) then
        (ag M 47 49 ((l1 * (7 : Int32)) + l6)).bind fun v6 =>
        (
          if v6 < l5 then
            (rr l6 l4 (l3 + (1 : Int32)) M).bind fun v10 =>
            lt (if v6 + v10 < l5 then v6 + v10 else l5 : Int32) fun v11 =>
            some v11
          else
            some l5
        ).bind fun t7 =>
        lt (l6 + 1 : Int32) fun v12 =>
        f_X10_roundFrom_L30 rr fu l1 l3 l4 t7 v12 M
      else
        lt (l6 + 1 : Int32) fun v13 =>
        f_X10_roundFrom_L30 rr fu l1 l3 l4 l5 v13 M
def g_X10_roundFrom (rr : Int32 → Int32 → Int32 → Mem → Option (Int32)) (x1 : Int32) (x2 : Int32) (x3 : Int32) (M : Mem) : Option (Int32) :=
  lt (x2 &&& (((1 : Int32) <<< (x1 &&& 31)) ^^^ (-1 : Int32)) : Int32) fun v1 =>
  if v1 = 0 then
    some (0 : Int32)
  else
    if x3 ≤ (7 : Int32) then
      (f_X10_roundFrom_L30 rr FU x1 x3 v1 (1000 : Int32) (0 : Int32) M).bind fun t14 =>
      some t14
    else
      some (0 : Int32)
set_option maxHeartbeats 1000000 in
set_option maxRecDepth 20000 in
theorem t_X10_roundFrom_L30 {g : GG} {d : Nat} {P : PT} {res : Option RS} {rr : Int32 → Int32 → Int32 → Mem → Option (Int32)} (hd : 6 ≤ d) (hrec_X10_roundFrom : ∀ {x1 : Int32} {x2 : Int32} {x3 : Int32} {M : Mem} {r : Int32}, rr x1 x2 x3 M = some r → ExM g (d - 1) iX10_roundFrom [.ref 45, .int x1, .int x2, .int x3] LAY M (some (.int r), LAY, M))  (hP : IsM g iX10_roundFrom d res P) : ∀ (fu : Nat) (l1 : Int32) (l3 : Int32) (l4 : Int32) (l5 : Int32) (l6 : Int32) (M : Mem) (t : Int32), f_X10_roundFrom_L30 rr fu l1 l3 l4 l5 l6 M = some t → P 101 [none, none, none, none, none, some (.int t), none, none] [] LAY M → P 30 [some (.ref 45), some (.int l1), none, some (.int l3), some (.int l4), some (.int l5), some (.int l6), none] [] LAY M := by
  have hd1 : 1 ≤ d := by omega
  intro fu
  induction fu with
  | zero => intro l1 l3 l4 l5 l6 M t hf; simp [f_X10_roundFrom_L30] at hf
  | succ fu ih =>
    intro l1 l3 l4 l5 l6 M t hf hx
    rw [f_X10_roundFrom_L30] at hf
    refine x_iload hP dX10_roundFrom_30 rfl ?_
    refine x_bipush hP dX10_roundFrom_32 (v := 7) rfl ?_
    refine x_icmp_ge hP dX10_roundFrom_34 (tgt := 101) (by decide) (fun c4 => ?_) (fun c4 => ?_)
    · replace hf := p_t c4 hf
      refine x_drop hP [none, none, none, none, none, some (.int l5), none, none] (And.intro rfl trivial) ?_
      cases hf
      exact hx
    · replace hf := p_f c4 hf
      refine x_iload hP dX10_roundFrom_37 rfl ?_
      refine x_iload hP dX10_roundFrom_39 rfl ?_
      refine x_ishr hP dX10_roundFrom_41 ?_
      refine x_iconst hP dX10_roundFrom_42 (v := 1) rfl ?_
      refine x_iand hP dX10_roundFrom_43 ?_
      refine x_iconst hP dX10_roundFrom_44 (v := 1) rfl ?_
      refine x_icmp_ne hP dX10_roundFrom_45 (tgt := 95) (by decide) (fun c5 => ?_) (fun c5 => ?_)
      · replace hf := p_f c5 hf
        obtain ⟨v13, hv13, hf⟩ := b_lt hf
        refine x_iinc hP (v := v13) (ls2 := [some (.ref 45), some (.int l1), none, some (.int l3), some (.int l4), some (.int l5), some (.int v13), none]) dX10_roundFrom_95 rfl (by rw [hv13]; rfl) rfl rfl ?_
        refine x_goto hP dX10_roundFrom_98 (tgt := 30) (by decide) ?_
        refine x_drop hP [some (.ref 45), some (.int l1), none, some (.int l3), some (.int l4), some (.int l5), some (.int v13), none] (And.intro rfl (And.intro rfl (And.intro rfl (And.intro rfl (And.intro rfl (And.intro rfl trivial)))))) ?_
        exact ih _ _ _ _ _ _ _ hf hx
      · replace hf := p_t c5 hf
        refine x_aload_n hP dX10_roundFrom_48 rfl ?_
        refine x_getA hP fX10_15 lay45 (r := 47) rfl dX10_roundFrom_49 ?_
        refine x_iload_n hP dX10_roundFrom_52 rfl ?_
        refine x_bipush hP dX10_roundFrom_53 (v := 7) rfl ?_
        refine x_imul hP dX10_roundFrom_55 ?_
        refine x_iload hP dX10_roundFrom_56 rfl ?_
        refine x_iadd hP dX10_roundFrom_58 ?_
        obtain ⟨v6, hiv6, hv6, hf⟩ := b_ag hf
        refine y_ald hP lay47 hiv6 hv6 dX10_roundFrom_59 ?_
        refine x_istore hP (ls2 := [some (.ref 45), some (.int l1), none, some (.int l3), some (.int l4), some (.int l5), some (.int l6), some (.int v6)]) dX10_roundFrom_60 rfl rfl ?_
        refine x_iload hP dX10_roundFrom_62 rfl ?_
        refine x_iload hP dX10_roundFrom_64 rfl ?_
        obtain ⟨t7, het7, hf⟩ := b_bd hf
        have hj7 : P 93 [some (.ref 45), some (.int l1), none, some (.int l3), some (.int l4), none, some (.int l6), none] [.int t7] LAY M := by
          refine x_istore hP (ls2 := [some (.ref 45), some (.int l1), none, some (.int l3), some (.int l4), some (.int t7), some (.int l6), none]) dX10_roundFrom_93 rfl rfl ?_
          obtain ⟨v12, hv12, hf⟩ := b_lt hf
          refine x_iinc hP (v := v12) (ls2 := [some (.ref 45), some (.int l1), none, some (.int l3), some (.int l4), some (.int t7), some (.int v12), none]) dX10_roundFrom_95 rfl (by rw [hv12]; rfl) rfl rfl ?_
          refine x_goto hP dX10_roundFrom_98 (tgt := 30) (by decide) ?_
          refine x_drop hP [some (.ref 45), some (.int l1), none, some (.int l3), some (.int l4), some (.int t7), some (.int v12), none] (And.intro rfl (And.intro rfl (And.intro rfl (And.intro rfl (And.intro rfl (And.intro rfl trivial)))))) ?_
          exact ih _ _ _ _ _ _ _ hf hx
        clear hf
        have hf := het7
        clear het7
        refine x_icmp_lt hP dX10_roundFrom_66 (tgt := 74) (by decide) (fun c8 => ?_) (fun c8 => ?_)
        · replace hf := p_t c8 hf
          refine x_iload hP dX10_roundFrom_74 rfl ?_
          refine x_iload hP dX10_roundFrom_76 rfl ?_
          refine x_aload_n hP dX10_roundFrom_78 rfl ?_
          refine x_iload hP dX10_roundFrom_79 rfl ?_
          refine x_iload hP dX10_roundFrom_81 rfl ?_
          refine x_iload_n hP dX10_roundFrom_83 rfl ?_
          refine x_iconst hP dX10_roundFrom_84 (v := 1) rfl ?_
          refine x_iadd hP dX10_roundFrom_85 ?_
          obtain ⟨v10, hc9, hf⟩ := b_bd hf
          refine y_cvi hP oX10_roundFrom lX10_47 [.int l6, .int l4, .int (l3 + (1 : Int32))] [.int v6, .int l5] rfl rfl rfl lay45 dX10_roundFrom_86 (hrec_X10_roundFrom hc9) (by omega) ?_
          refine x_iadd hP dX10_roundFrom_89 ?_
          refine y_min hP lX10_75 rfl hd1 dX10_roundFrom_90 ?_
          obtain ⟨v11, hv11, hf⟩ := b_lt hf
          refine y_nmI hv11 ?_
          refine x_drop hP [some (.ref 45), some (.int l1), none, some (.int l3), some (.int l4), none, some (.int l6), none] (And.intro rfl (And.intro rfl (And.intro rfl (And.intro rfl (And.intro rfl trivial))))) ?_
          cases hf
          exact hj7
        · replace hf := p_f c8 hf
          refine x_iload hP dX10_roundFrom_69 rfl ?_
          refine x_goto hP dX10_roundFrom_71 (tgt := 93) (by decide) ?_
          refine x_drop hP [some (.ref 45), some (.int l1), none, some (.int l3), some (.int l4), none, some (.int l6), none] (And.intro rfl (And.intro rfl (And.intro rfl (And.intro rfl (And.intro rfl trivial))))) ?_
          cases hf
          exact hj7
set_option maxHeartbeats 1000000 in
set_option maxRecDepth 20000 in
theorem tg_X10_roundFrom {g : GG} {d : Nat} {rr : Int32 → Int32 → Int32 → Mem → Option (Int32)} (hd : 6 ≤ d) (hrec_X10_roundFrom : ∀ {x1 : Int32} {x2 : Int32} {x3 : Int32} {M : Mem} {r : Int32}, rr x1 x2 x3 M = some r → ExM g (d - 1) iX10_roundFrom [.ref 45, .int x1, .int x2, .int x3] LAY M (some (.int r), LAY, M)) {x1 : Int32} {x2 : Int32} {x3 : Int32} {M : Mem} {r : Int32} (hf : g_X10_roundFrom rr x1 x2 x3 M = some r) : ExM g d iX10_roundFrom [.ref 45, .int x1, .int x2, .int x3] LAY M (some (.int r), LAY, M) := by
  have hd1 : 1 ≤ d := by omega
  refine ExM.main pnX10 rfl (ls := [some (.ref 45), some (.int x1), some (.int x2), some (.int x3), none, none, none, none]) rfl ?_
  intro P hP
  rw [g_X10_roundFrom] at hf
  refine x_iload_n hP dX10_roundFrom_0 rfl ?_
  refine x_iconst hP dX10_roundFrom_1 (v := 1) rfl ?_
  refine x_iload_n hP dX10_roundFrom_2 rfl ?_
  refine x_ishl hP dX10_roundFrom_3 ?_
  refine x_iconst hP dX10_roundFrom_4 (v := (-1)) rfl ?_
  refine x_ixor hP dX10_roundFrom_5 ?_
  refine x_iand hP dX10_roundFrom_6 ?_
  obtain ⟨v1, hv1, hf⟩ := b_lt hf
  refine y_nmI hv1 ?_
  refine x_istore hP (ls2 := [some (.ref 45), some (.int x1), some (.int x2), some (.int x3), some (.int v1), none, none, none]) dX10_roundFrom_7 rfl rfl ?_
  refine x_iload hP dX10_roundFrom_9 rfl ?_
  refine x_if_eq hP dX10_roundFrom_11 (tgt := 20) (by decide) (fun c2 => ?_) (fun c2 => ?_)
  · replace hf := p_t c2 hf
    refine x_iconst hP dX10_roundFrom_20 (v := 0) rfl ?_
    cases hf
    exact x_iret hP rfl dX10_roundFrom_21
  · replace hf := p_f c2 hf
    refine x_iload_n hP dX10_roundFrom_14 rfl ?_
    refine x_bipush hP dX10_roundFrom_15 (v := 7) rfl ?_
    refine x_icmp_le hP dX10_roundFrom_17 (tgt := 22) (by decide) (fun c3 => ?_) (fun c3 => ?_)
    · replace hf := p_t c3 hf
      refine x_sipush hP dX10_roundFrom_22 (v := 1000) rfl ?_
      refine x_istore hP (ls2 := [some (.ref 45), some (.int x1), some (.int x2), some (.int x3), some (.int v1), some (.int (1000 : Int32)), none, none]) dX10_roundFrom_25 rfl rfl ?_
      refine x_iconst hP dX10_roundFrom_27 (v := 0) rfl ?_
      refine x_istore hP (ls2 := [some (.ref 45), some (.int x1), some (.int x2), some (.int x3), some (.int v1), some (.int (1000 : Int32)), some (.int (0 : Int32)), none]) dX10_roundFrom_28 rfl rfl ?_
      refine x_drop hP [some (.ref 45), some (.int x1), none, some (.int x3), some (.int v1), some (.int (1000 : Int32)), some (.int (0 : Int32)), none] (And.intro rfl (And.intro rfl (And.intro rfl (And.intro rfl (And.intro rfl (And.intro rfl trivial)))))) ?_
      obtain ⟨t14, hl15, hf⟩ := b_bd hf
      refine t_X10_roundFrom_L30 hd hrec_X10_roundFrom hP _ _ _ _ _ _ _ _ hl15 ?_
      refine x_iload hP dX10_roundFrom_101 rfl ?_
      cases hf
      exact x_iret hP rfl dX10_roundFrom_103
    · replace hf := p_f c3 hf
      refine x_iconst hP dX10_roundFrom_20 (v := 0) rfl ?_
      cases hf
      exact x_iret hP rfl dX10_roundFrom_21
def n_X10_roundFrom : Nat → Int32 → Int32 → Int32 → Mem → Option (Int32)
  | 0 => fun _ _ _ _ => none
  | n + 1 => fun x1 x2 x3 M => g_X10_roundFrom (n_X10_roundFrom n) x1 x2 x3 M
def f_X10_roundFrom (x1 x2 x3 : Int32) (M : Mem) : Option (Int32) := n_X10_roundFrom 40 x1 x2 x3 M
theorem tn_X10_roundFrom {g : GG} : ∀ (n d : Nat), n + 6 ≤ d → ∀ {x1 x2 x3 : Int32} {M : Mem} {r : Int32}, n_X10_roundFrom n x1 x2 x3 M = some r → ExM g d iX10_roundFrom [.ref 45, .int x1, .int x2, .int x3] LAY M (some (.int r), LAY, M)
  | 0, _, _, _, _, _, _, _, hf => by simp [n_X10_roundFrom] at hf
  | n + 1, d, hd, _, _, _, _, _, hf => tg_X10_roundFrom (by omega) (fun h => tn_X10_roundFrom n (d - 1) (by omega) h) hf
theorem t_X10_roundFrom {g : GG} {d : Nat} (hd : 46 ≤ d) {x1 x2 x3 : Int32} {M : Mem} {r : Int32} (hf : f_X10_roundFrom x1 x2 x3 M = some r) : ExM g d iX10_roundFrom [.ref 45, .int x1, .int x2, .int x3] LAY M (some (.int r), LAY, M) := tn_X10_roundFrom 40 d hd hf
def f_X10_shortestRound_L3 (t1 : Nat) : Nat → Int32 → Int32 → Int32 → Mem → Option (Mem)
  | 0, _, _, _, _ => none
  | fu + 1, l2, l3, l4, M =>
    if M.1 t1 10 ≤ l4 then
      some M
    else
      (f_X10_measure t1 l4 (0 : Int32) M).bind fun M3 =>
      (cp M3 46 7 47 49 (0 : Int32) (l4 * (7 : Int32)) (7 : Int32)).bind fun M4 =>
      lt (l4 + 1 : Int32) fun v5 =>
      f_X10_shortestRound_L3 t1 fu l2 l3 v5 M4
def f_X10_shortestRound (t1 : Nat) (x2 : Int32) (x3 : Int32) (M : Mem) : Option (Int32 × Mem) :=
  (f_X10_shortestRound_L3 t1 FU x2 x3 (0 : Int32) M).bind fun t6 =>
  (f_X10_roundFrom x2 x3 (0 : Int32) t6).bind fun v9 =>
  if v9 < (1000 : Int32) then
    some (v9, t6)
  else
    some ((-2 : Int32), t6)
set_option maxHeartbeats 1000000 in
set_option maxRecDepth 20000 in
theorem t_X10_shortestRound_L3 {g : GG} {d : Nat} {P : PT} {res : Option RS} (hd : 47 ≤ d) {t1 : Nat} (ht1 : isT t1) (hP : IsM g iX10_shortestRound d res P) : ∀ (fu : Nat) (l2 : Int32) (l3 : Int32) (l4 : Int32) (M : Mem) (t : Mem), f_X10_shortestRound_L3 t1 fu l2 l3 l4 M = some t → P 45 [some (.ref 45), none, some (.int l2), some (.int l3), none] [] LAY t → P 3 [some (.ref 45), some (.ref t1), some (.int l2), some (.int l3), some (.int l4)] [] LAY M := by
  have hd1 : 1 ≤ d := by omega
  intro fu
  induction fu with
  | zero => intro l2 l3 l4 M t hf; simp [f_X10_shortestRound_L3] at hf
  | succ fu ih =>
    intro l2 l3 l4 M t hf hx
    rw [f_X10_shortestRound_L3] at hf
    refine x_iload hP dX10_shortestRound_3 rfl ?_
    refine x_aload_n hP dX10_shortestRound_5 rfl ?_
    refine x_getI hP fX10_22 (layT ht1) dX10_shortestRound_6 ?_
    refine x_icmp_ge hP dX10_shortestRound_9 (tgt := 45) (by decide) (fun c1 => ?_) (fun c1 => ?_)
    · replace hf := p_t c1 hf
      refine x_drop hP [some (.ref 45), none, some (.int l2), some (.int l3), none] (And.intro rfl (And.intro rfl (And.intro rfl trivial))) ?_
      cases hf
      exact hx
    · replace hf := p_f c1 hf
      refine x_aload_n hP dX10_shortestRound_12 rfl ?_
      refine x_aload_n hP dX10_shortestRound_13 rfl ?_
      refine x_iload hP dX10_shortestRound_14 rfl ?_
      refine x_iconst hP dX10_shortestRound_16 (v := 0) rfl ?_
      obtain ⟨M3, hc2, hf⟩ := b_bd hf
      refine y_cvv hP oX10_measure lX10_18 [.ref t1, .int l4, .int (0 : Int32)] [] rfl rfl rfl lay45 dX10_shortestRound_17 (t_X10_measure (d := d - 1) (by omega) ht1 hc2) (by omega) ?_
      refine x_aload_n hP dX10_shortestRound_20 rfl ?_
      refine x_getA hP fX10_9 lay45 (r := 46) rfl dX10_shortestRound_21 ?_
      refine x_iconst hP dX10_shortestRound_24 (v := 0) rfl ?_
      refine x_aload_n hP dX10_shortestRound_25 rfl ?_
      refine x_getA hP fX10_15 lay45 (r := 47) rfl dX10_shortestRound_26 ?_
      refine x_iload hP dX10_shortestRound_29 rfl ?_
      refine x_bipush hP dX10_shortestRound_31 (v := 7) rfl ?_
      refine x_imul hP dX10_shortestRound_33 ?_
      refine x_bipush hP dX10_shortestRound_34 (v := 7) rfl ?_
      obtain ⟨M4, hiM4, hM4, hf⟩ := b_cp hf
      refine y_cpy hP lX10_41 lay46 lay47 hiM4 hM4 rfl hd1 dX10_shortestRound_36 ?_
      obtain ⟨v5, hv5, hf⟩ := b_lt hf
      refine x_iinc hP (v := v5) (ls2 := [some (.ref 45), some (.ref t1), some (.int l2), some (.int l3), some (.int v5)]) dX10_shortestRound_39 rfl (by rw [hv5]; rfl) rfl rfl ?_
      refine x_goto hP dX10_shortestRound_42 (tgt := 3) (by decide) ?_
      refine x_drop hP [some (.ref 45), some (.ref t1), some (.int l2), some (.int l3), some (.int v5)] (And.intro rfl (And.intro rfl (And.intro rfl (And.intro rfl (And.intro rfl trivial))))) ?_
      exact ih _ _ _ _ _ hf hx
set_option maxHeartbeats 1000000 in
set_option maxRecDepth 20000 in
theorem t_X10_shortestRound {g : GG} {d : Nat} (hd : 47 ≤ d) {t1 : Nat} (ht1 : isT t1) {x2 : Int32} {x3 : Int32} {M : Mem} {r : Int32} {M' : Mem} (hf : f_X10_shortestRound t1 x2 x3 M = some (r, M')) : ExM g d iX10_shortestRound [.ref 45, .ref t1, .int x2, .int x3] LAY M (some (.int r), LAY, M') := by
  have hd1 : 1 ≤ d := by omega
  refine ExM.main pnX10 rfl (ls := [some (.ref 45), some (.ref t1), some (.int x2), some (.int x3), none]) rfl ?_
  intro P hP
  rw [f_X10_shortestRound] at hf
  refine x_iconst hP dX10_shortestRound_0 (v := 0) rfl ?_
  refine x_istore hP (ls2 := [some (.ref 45), some (.ref t1), some (.int x2), some (.int x3), some (.int (0 : Int32))]) dX10_shortestRound_1 rfl rfl ?_
  refine x_drop hP [some (.ref 45), some (.ref t1), some (.int x2), some (.int x3), some (.int (0 : Int32))] (And.intro rfl (And.intro rfl (And.intro rfl (And.intro rfl (And.intro rfl trivial))))) ?_
  obtain ⟨t6, hl7, hf⟩ := b_bd hf
  refine t_X10_shortestRound_L3 hd ht1 hP _ _ _ _ _ _ hl7 ?_
  refine x_aload_n hP dX10_shortestRound_45 rfl ?_
  refine x_iload_n hP dX10_shortestRound_46 rfl ?_
  refine x_iload_n hP dX10_shortestRound_47 rfl ?_
  refine x_iconst hP dX10_shortestRound_48 (v := 0) rfl ?_
  obtain ⟨v9, hc8, hf⟩ := b_bd hf
  refine y_cvi hP oX10_roundFrom lX10_47 [.int x2, .int x3, .int (0 : Int32)] [] rfl rfl rfl lay45 dX10_shortestRound_49 (t_X10_roundFrom (d := d - 1) (by omega) hc8) (by omega) ?_
  refine x_istore hP (ls2 := [some (.ref 45), none, some (.int x2), some (.int x3), some (.int v9)]) dX10_shortestRound_52 rfl rfl ?_
  refine x_iload hP dX10_shortestRound_54 rfl ?_
  refine x_sipush hP dX10_shortestRound_56 (v := 1000) rfl ?_
  refine x_icmp_lt hP dX10_shortestRound_59 (tgt := 67) (by decide) (fun c10 => ?_) (fun c10 => ?_)
  · replace hf := p_t c10 hf
    refine x_iload hP dX10_shortestRound_67 rfl ?_
    cases hf
    exact x_iret hP rfl dX10_shortestRound_69
  · replace hf := p_f c10 hf
    refine x_bipush hP dX10_shortestRound_62 (v := (-2)) rfl ?_
    refine x_goto hP dX10_shortestRound_64 (tgt := 69) (by decide) ?_
    cases hf
    exact x_iret hP rfl dX10_shortestRound_69
def f_X10_stepsOfAll_L15 (n1 : Nat) : Nat → Int32 → Int32 → Mem → Option (Int32)
  | 0, _, _, _ => none
  | fu + 1, l3, l4, M =>
    (rT M n1 0).bind fun t4 =>
    if M.1 t4 12 ≤ l4 then
      some l3
    else
      (f_X3_isHome n1 l4 M).bind fun v7 =>
      if v7 = 0 then
        (ag M (n1 + 1) 6 l4).bind fun v9 =>
        (ag M 46 7 v9).bind fun v10 =>
        lt (l3 + v10 : Int32) fun v11 =>
        lt (l4 + 1 : Int32) fun v12 =>
        f_X10_stepsOfAll_L15 n1 fu v11 v12 M
      else
        lt (l4 + 1 : Int32) fun v13 =>
        f_X10_stepsOfAll_L15 n1 fu l3 v13 M
def f_X10_stepsOfAll (n1 : Nat) (x2 : Int32) (M : Mem) : Option (Int32 × Mem) :=
  (rT M n1 0).bind fun t1 =>
  (f_X10_measure t1 x2 (0 : Int32) M).bind fun M3 =>
  (f_X10_stepsOfAll_L15 n1 FU (0 : Int32) (0 : Int32) M3).bind fun t14 =>
  some (t14, M3)
set_option maxHeartbeats 1000000 in
set_option maxRecDepth 20000 in
theorem t_X10_stepsOfAll_L15 {g : GG} {d : Nat} {P : PT} {res : Option RS} (hd : 3 ≤ d) {n1 : Nat} (hn1 : isN n1) (hP : IsM g iX10_stepsOfAll d res P) : ∀ (fu : Nat) (l3 : Int32) (l4 : Int32) (M : Mem) (t : Int32), f_X10_stepsOfAll_L15 n1 fu l3 l4 M = some t → P 57 [none, none, none, some (.int t), none] [] LAY M → P 15 [some (.ref 45), some (.ref n1), none, some (.int l3), some (.int l4)] [] LAY M := by
  have hd1 : 1 ≤ d := by omega
  intro fu
  induction fu with
  | zero => intro l3 l4 M t hf; simp [f_X10_stepsOfAll_L15] at hf
  | succ fu ih =>
    intro l3 l4 M t hf hx
    rw [f_X10_stepsOfAll_L15] at hf
    refine x_iload hP dX10_stepsOfAll_15 rfl ?_
    refine x_aload_n hP dX10_stepsOfAll_17 rfl ?_
    obtain ⟨t4, ht4, hrt4, hf⟩ := b_rT hf
    refine x_getM hP fX10_51 (layN hn1) hrt4 dX10_stepsOfAll_18 ?_
    refine x_getI hP fX10_61 (layT ht4) dX10_stepsOfAll_21 ?_
    refine x_icmp_ge hP dX10_stepsOfAll_24 (tgt := 57) (by decide) (fun c5 => ?_) (fun c5 => ?_)
    · replace hf := p_t c5 hf
      refine x_drop hP [none, none, none, some (.int l3), none] (And.intro rfl trivial) ?_
      cases hf
      exact hx
    · replace hf := p_f c5 hf
      refine x_aload_n hP dX10_stepsOfAll_27 rfl ?_
      refine x_iload hP dX10_stepsOfAll_28 rfl ?_
      obtain ⟨v7, hc6, hf⟩ := b_bd hf
      refine y_cvi hP oX3_isHome lX10_64 [.int l4] [] rfl rfl rfl (layN hn1) dX10_stepsOfAll_30 (t_X3_isHome (d := d - 1) (by omega) hn1 hc6) (by omega) ?_
      refine x_if_ne hP dX10_stepsOfAll_33 (tgt := 51) (by decide) (fun c8 => ?_) (fun c8 => ?_)
      · replace hf := p_f c8 hf
        obtain ⟨v13, hv13, hf⟩ := b_lt hf
        refine x_iinc hP (v := v13) (ls2 := [some (.ref 45), some (.ref n1), none, some (.int l3), some (.int v13)]) dX10_stepsOfAll_51 rfl (by rw [hv13]; rfl) rfl rfl ?_
        refine x_goto hP dX10_stepsOfAll_54 (tgt := 15) (by decide) ?_
        refine x_drop hP [some (.ref 45), some (.ref n1), none, some (.int l3), some (.int v13)] (And.intro rfl (And.intro rfl (And.intro rfl (And.intro rfl trivial)))) ?_
        exact ih _ _ _ _ hf hx
      · replace hf := p_t c8 hf
        refine x_iload_n hP dX10_stepsOfAll_36 rfl ?_
        refine x_aload_n hP dX10_stepsOfAll_37 rfl ?_
        refine x_getA hP fX10_9 lay45 (r := 46) rfl dX10_stepsOfAll_38 ?_
        refine x_aload_n hP dX10_stepsOfAll_41 rfl ?_
        refine x_getA hP fX10_68 (layN hn1) (r := n1 + 1) rfl dX10_stepsOfAll_42 ?_
        refine x_iload hP dX10_stepsOfAll_45 rfl ?_
        obtain ⟨v9, hiv9, hv9, hf⟩ := b_ag hf
        refine y_ald hP (layN_1 hn1) hiv9 hv9 dX10_stepsOfAll_47 ?_
        obtain ⟨v10, hiv10, hv10, hf⟩ := b_ag hf
        refine y_ald hP lay46 hiv10 hv10 dX10_stepsOfAll_48 ?_
        refine x_iadd hP dX10_stepsOfAll_49 ?_
        obtain ⟨v11, hv11, hf⟩ := b_lt hf
        refine y_nmI hv11 ?_
        refine x_istore_n hP (ls2 := [some (.ref 45), some (.ref n1), none, some (.int v11), some (.int l4)]) dX10_stepsOfAll_50 rfl rfl rfl ?_
        obtain ⟨v12, hv12, hf⟩ := b_lt hf
        refine x_iinc hP (v := v12) (ls2 := [some (.ref 45), some (.ref n1), none, some (.int v11), some (.int v12)]) dX10_stepsOfAll_51 rfl (by rw [hv12]; rfl) rfl rfl ?_
        refine x_goto hP dX10_stepsOfAll_54 (tgt := 15) (by decide) ?_
        refine x_drop hP [some (.ref 45), some (.ref n1), none, some (.int v11), some (.int v12)] (And.intro rfl (And.intro rfl (And.intro rfl (And.intro rfl trivial)))) ?_
        exact ih _ _ _ _ hf hx
set_option maxHeartbeats 1000000 in
set_option maxRecDepth 20000 in
theorem t_X10_stepsOfAll {g : GG} {d : Nat} (hd : 3 ≤ d) {n1 : Nat} (hn1 : isN n1) {x2 : Int32} {M : Mem} {r : Int32} {M' : Mem} (hf : f_X10_stepsOfAll n1 x2 M = some (r, M')) : ExM g d iX10_stepsOfAll [.ref 45, .ref n1, .int x2] LAY M (some (.int r), LAY, M') := by
  have hd1 : 1 ≤ d := by omega
  refine ExM.main pnX10 rfl (ls := [some (.ref 45), some (.ref n1), some (.int x2), none, none]) rfl ?_
  intro P hP
  rw [f_X10_stepsOfAll] at hf
  refine x_aload_n hP dX10_stepsOfAll_0 rfl ?_
  refine x_aload_n hP dX10_stepsOfAll_1 rfl ?_
  obtain ⟨t1, ht1, hrt1, hf⟩ := b_rT hf
  refine x_getM hP fX10_51 (layN hn1) hrt1 dX10_stepsOfAll_2 ?_
  refine x_iload_n hP dX10_stepsOfAll_5 rfl ?_
  refine x_iconst hP dX10_stepsOfAll_6 (v := 0) rfl ?_
  obtain ⟨M3, hc2, hf⟩ := b_bd hf
  refine y_cvv hP oX10_measure lX10_18 [.ref t1, .int x2, .int (0 : Int32)] [] rfl rfl rfl lay45 dX10_stepsOfAll_7 (t_X10_measure (d := d - 1) (by omega) ht1 hc2) (by omega) ?_
  refine x_iconst hP dX10_stepsOfAll_10 (v := 0) rfl ?_
  refine x_istore_n hP (ls2 := [some (.ref 45), some (.ref n1), some (.int x2), some (.int (0 : Int32)), none]) dX10_stepsOfAll_11 rfl rfl rfl ?_
  refine x_iconst hP dX10_stepsOfAll_12 (v := 0) rfl ?_
  refine x_istore hP (ls2 := [some (.ref 45), some (.ref n1), some (.int x2), some (.int (0 : Int32)), some (.int (0 : Int32))]) dX10_stepsOfAll_13 rfl rfl ?_
  refine x_drop hP [some (.ref 45), some (.ref n1), none, some (.int (0 : Int32)), some (.int (0 : Int32))] (And.intro rfl (And.intro rfl (And.intro rfl (And.intro rfl trivial)))) ?_
  obtain ⟨t14, hl15, hf⟩ := b_bd hf
  refine t_X10_stepsOfAll_L15 hd hn1 hP _ _ _ _ _ hl15 ?_
  refine x_iload_n hP dX10_stepsOfAll_57 rfl ?_
  cases hf
  exact x_iret hP rfl dX10_stepsOfAll_58
def f_X10_nearestToAll_L9 (n1 : Nat) : Nat → Int32 → Int32 → Int32 → Mem → Option (Int32 × Mem)
  | 0, _, _, _, _ => none
  | fu + 1, l2, l3, l4, M =>
    (rT M n1 0).bind fun t1 =>
    if M.1 t1 10 ≤ l4 then
      some (l2, M)
    else
      (f_X10_stepsOfAll n1 l4 M).bind fun t4 =>
      if l3 ≤ t4.1 then
        lt (l4 + 1 : Int32) fun v6 =>
        f_X10_nearestToAll_L9 n1 fu l2 l3 v6 t4.2
      else
        lt (l4 + 1 : Int32) fun v7 =>
        f_X10_nearestToAll_L9 n1 fu l4 t4.1 v7 t4.2
def f_X10_nearestToAll (n1 : Nat) (M : Mem) : Option (Int32 × Mem) :=
  (f_X10_nearestToAll_L9 n1 FU (-1 : Int32) (1000 : Int32) (0 : Int32) M).bind fun t8 =>
  some (t8.1, t8.2)
set_option maxHeartbeats 1000000 in
set_option maxRecDepth 20000 in
theorem t_X10_nearestToAll_L9 {g : GG} {d : Nat} {P : PT} {res : Option RS} (hd : 4 ≤ d) {n1 : Nat} (hn1 : isN n1) (hP : IsM g iX10_nearestToAll d res P) : ∀ (fu : Nat) (l2 : Int32) (l3 : Int32) (l4 : Int32) (M : Mem) (t : Int32 × Mem), f_X10_nearestToAll_L9 n1 fu l2 l3 l4 M = some t → P 48 [none, none, some (.int t.1), none, none, none] [] LAY t.2 → P 9 [some (.ref 45), some (.ref n1), some (.int l2), some (.int l3), some (.int l4), none] [] LAY M := by
  have hd1 : 1 ≤ d := by omega
  intro fu
  induction fu with
  | zero => intro l2 l3 l4 M t hf; simp [f_X10_nearestToAll_L9] at hf
  | succ fu ih =>
    intro l2 l3 l4 M t hf hx
    rw [f_X10_nearestToAll_L9] at hf
    refine x_iload hP dX10_nearestToAll_9 rfl ?_
    refine x_aload_n hP dX10_nearestToAll_11 rfl ?_
    obtain ⟨t1, ht1, hrt1, hf⟩ := b_rT hf
    refine x_getM hP fX10_51 (layN hn1) hrt1 dX10_nearestToAll_12 ?_
    refine x_getI hP fX10_22 (layT ht1) dX10_nearestToAll_15 ?_
    refine x_icmp_ge hP dX10_nearestToAll_18 (tgt := 48) (by decide) (fun c2 => ?_) (fun c2 => ?_)
    · replace hf := p_t c2 hf
      refine x_drop hP [none, none, some (.int l2), none, none, none] (And.intro rfl trivial) ?_
      cases hf
      exact hx
    · replace hf := p_f c2 hf
      refine x_aload_n hP dX10_nearestToAll_21 rfl ?_
      refine x_aload_n hP dX10_nearestToAll_22 rfl ?_
      refine x_iload hP dX10_nearestToAll_23 rfl ?_
      obtain ⟨t4, hc3, hf⟩ := b_bd hf
      refine y_cvi hP oX10_stepsOfAll lX10_57 [.ref n1, .int l4] [] rfl rfl rfl lay45 dX10_nearestToAll_25 (t_X10_stepsOfAll (d := d - 1) (by omega) hn1 hc3) (by omega) ?_
      refine x_istore hP (ls2 := [some (.ref 45), some (.ref n1), some (.int l2), some (.int l3), some (.int l4), some (.int t4.1)]) dX10_nearestToAll_28 rfl rfl ?_
      refine x_iload hP dX10_nearestToAll_30 rfl ?_
      refine x_iload_n hP dX10_nearestToAll_32 rfl ?_
      refine x_icmp_ge hP dX10_nearestToAll_33 (tgt := 42) (by decide) (fun c5 => ?_) (fun c5 => ?_)
      · replace hf := p_t c5 hf
        obtain ⟨v6, hv6, hf⟩ := b_lt hf
        refine x_iinc hP (v := v6) (ls2 := [some (.ref 45), some (.ref n1), some (.int l2), some (.int l3), some (.int v6), some (.int t4.1)]) dX10_nearestToAll_42 rfl (by rw [hv6]; rfl) rfl rfl ?_
        refine x_goto hP dX10_nearestToAll_45 (tgt := 9) (by decide) ?_
        refine x_drop hP [some (.ref 45), some (.ref n1), some (.int l2), some (.int l3), some (.int v6), none] (And.intro rfl (And.intro rfl (And.intro rfl (And.intro rfl (And.intro rfl trivial))))) ?_
        exact ih _ _ _ _ _ hf hx
      · replace hf := p_f c5 hf
        refine x_iload hP dX10_nearestToAll_36 rfl ?_
        refine x_istore_n hP (ls2 := [some (.ref 45), some (.ref n1), some (.int l2), some (.int t4.1), some (.int l4), some (.int t4.1)]) dX10_nearestToAll_38 rfl rfl rfl ?_
        refine x_iload hP dX10_nearestToAll_39 rfl ?_
        refine x_istore_n hP (ls2 := [some (.ref 45), some (.ref n1), some (.int l4), some (.int t4.1), some (.int l4), some (.int t4.1)]) dX10_nearestToAll_41 rfl rfl rfl ?_
        obtain ⟨v7, hv7, hf⟩ := b_lt hf
        refine x_iinc hP (v := v7) (ls2 := [some (.ref 45), some (.ref n1), some (.int l4), some (.int t4.1), some (.int v7), some (.int t4.1)]) dX10_nearestToAll_42 rfl (by rw [hv7]; rfl) rfl rfl ?_
        refine x_goto hP dX10_nearestToAll_45 (tgt := 9) (by decide) ?_
        refine x_drop hP [some (.ref 45), some (.ref n1), some (.int l4), some (.int t4.1), some (.int v7), none] (And.intro rfl (And.intro rfl (And.intro rfl (And.intro rfl (And.intro rfl trivial))))) ?_
        exact ih _ _ _ _ _ hf hx
set_option maxHeartbeats 1000000 in
set_option maxRecDepth 20000 in
theorem t_X10_nearestToAll {g : GG} {d : Nat} (hd : 4 ≤ d) {n1 : Nat} (hn1 : isN n1) {M : Mem} {r : Int32} {M' : Mem} (hf : f_X10_nearestToAll n1 M = some (r, M')) : ExM g d iX10_nearestToAll [.ref 45, .ref n1] LAY M (some (.int r), LAY, M') := by
  have hd1 : 1 ≤ d := by omega
  refine ExM.main pnX10 rfl (ls := [some (.ref 45), some (.ref n1), none, none, none, none]) rfl ?_
  intro P hP
  rw [f_X10_nearestToAll] at hf
  refine x_iconst hP dX10_nearestToAll_0 (v := (-1)) rfl ?_
  refine x_istore_n hP (ls2 := [some (.ref 45), some (.ref n1), some (.int (-1 : Int32)), none, none, none]) dX10_nearestToAll_1 rfl rfl rfl ?_
  refine x_sipush hP dX10_nearestToAll_2 (v := 1000) rfl ?_
  refine x_istore_n hP (ls2 := [some (.ref 45), some (.ref n1), some (.int (-1 : Int32)), some (.int (1000 : Int32)), none, none]) dX10_nearestToAll_5 rfl rfl rfl ?_
  refine x_iconst hP dX10_nearestToAll_6 (v := 0) rfl ?_
  refine x_istore hP (ls2 := [some (.ref 45), some (.ref n1), some (.int (-1 : Int32)), some (.int (1000 : Int32)), some (.int (0 : Int32)), none]) dX10_nearestToAll_7 rfl rfl ?_
  refine x_drop hP [some (.ref 45), some (.ref n1), some (.int (-1 : Int32)), some (.int (1000 : Int32)), some (.int (0 : Int32)), none] (And.intro rfl (And.intro rfl (And.intro rfl (And.intro rfl (And.intro rfl trivial))))) ?_
  obtain ⟨t8, hl9, hf⟩ := b_bd hf
  refine t_X10_nearestToAll_L9 hd hn1 hP _ _ _ _ _ _ hl9 ?_
  refine x_iload_n hP dX10_nearestToAll_48 rfl ?_
  cases hf
  exact x_iret hP rfl dX10_nearestToAll_49
def f_X10_isCrossing (t0 : Nat) (x1 : Int32) (x2 : Int32) (M : Mem) : Option (Int32) :=
  (ag M (t0 + 1) 10 x2).bind fun v1 =>
  (ag M (t0 + 2) 10 x2).bind fun v2 =>
  if (x1 >>> (v1 &&& 31)) &&& (1 : Int32) = (x1 >>> (v2 &&& 31)) &&& (1 : Int32) then
    some (0 : Int32)
  else
    some (1 : Int32)
set_option maxHeartbeats 1000000 in
set_option maxRecDepth 20000 in
theorem t_X10_isCrossing {g : GG} {d : Nat} (hd : 1 ≤ d) {t0 : Nat} (ht0 : isT t0) {x1 : Int32} {x2 : Int32} {M : Mem} {r : Int32} (hf : f_X10_isCrossing t0 x1 x2 M = some r) : ExM g d iX10_isCrossing [.ref t0, .int x1, .int x2] LAY M (some (.int r), LAY, M) := by
  have hd1 : 1 ≤ d := by omega
  refine ExM.main pnX10 rfl (ls := [some (.ref t0), some (.int x1), some (.int x2)]) rfl ?_
  intro P hP
  rw [f_X10_isCrossing] at hf
  refine x_iload_n hP dX10_isCrossing_0 rfl ?_
  refine x_aload_n hP dX10_isCrossing_1 rfl ?_
  refine x_getA hP fX10_31 (layT ht0) (r := t0 + 1) rfl dX10_isCrossing_2 ?_
  refine x_iload_n hP dX10_isCrossing_5 rfl ?_
  obtain ⟨v1, hiv1, hv1, hf⟩ := b_ag hf
  refine y_ald hP (layT_1 ht0) hiv1 hv1 dX10_isCrossing_6 ?_
  refine x_ishr hP dX10_isCrossing_7 ?_
  refine x_iconst hP dX10_isCrossing_8 (v := 1) rfl ?_
  refine x_iand hP dX10_isCrossing_9 ?_
  refine x_iload_n hP dX10_isCrossing_10 rfl ?_
  refine x_aload_n hP dX10_isCrossing_11 rfl ?_
  refine x_getA hP fX10_34 (layT ht0) (r := t0 + 2) rfl dX10_isCrossing_12 ?_
  refine x_iload_n hP dX10_isCrossing_15 rfl ?_
  obtain ⟨v2, hiv2, hv2, hf⟩ := b_ag hf
  refine y_ald hP (layT_2 ht0) hiv2 hv2 dX10_isCrossing_16 ?_
  refine x_ishr hP dX10_isCrossing_17 ?_
  refine x_iconst hP dX10_isCrossing_18 (v := 1) rfl ?_
  refine x_iand hP dX10_isCrossing_19 ?_
  refine x_icmp_eq hP dX10_isCrossing_20 (tgt := 27) (by decide) (fun c3 => ?_) (fun c3 => ?_)
  · replace hf := p_t c3 hf
    refine x_iconst hP dX10_isCrossing_27 (v := 0) rfl ?_
    cases hf
    exact x_zret hP rfl (Or.inl rfl) dX10_isCrossing_28
  · replace hf := p_f c3 hf
    refine x_iconst hP dX10_isCrossing_23 (v := 1) rfl ?_
    refine x_goto hP dX10_isCrossing_24 (tgt := 28) (by decide) ?_
    cases hf
    exact x_zret hP rfl (Or.inr rfl) dX10_isCrossing_28
def f_X10_crossing_L5 (t0 : Nat) : Nat → Int32 → Int32 → Int32 → Int32 → Mem → Option (Int32)
  | 0, _, _, _, _, _ => none
  | fu + 1, l1, l2, l3, l4, M =>
    if M.1 t0 11 ≤ l4 then
      some l3
    else
      if (l2 >>> (l4 &&& 31)) &&& (1 : Int32) = (1 : Int32) then
        (f_X10_isCrossing t0 l1 l4 M).bind fun v4 =>
        if v4 = 0 then
          lt (l4 + 1 : Int32) fun v6 =>
          f_X10_crossing_L5 t0 fu l1 l2 l3 v6 M
        else
          lt (l3 + 1 : Int32) fun v7 =>
          lt (l4 + 1 : Int32) fun v8 =>
          f_X10_crossing_L5 t0 fu l1 l2 v7 v8 M
      else
        lt (l4 + 1 : Int32) fun v9 =>
        f_X10_crossing_L5 t0 fu l1 l2 l3 v9 M
def f_X10_crossing (t0 : Nat) (x1 : Int32) (x2 : Int32) (M : Mem) : Option (Int32) :=
  (f_X10_crossing_L5 t0 FU x1 x2 (0 : Int32) (0 : Int32) M).bind fun t10 =>
  some t10
set_option maxHeartbeats 1000000 in
set_option maxRecDepth 20000 in
theorem t_X10_crossing_L5 {g : GG} {d : Nat} {P : PT} {res : Option RS} (hd : 2 ≤ d) {t0 : Nat} (ht0 : isT t0) (hP : IsM g iX10_crossing d res P) : ∀ (fu : Nat) (l1 : Int32) (l2 : Int32) (l3 : Int32) (l4 : Int32) (M : Mem) (t : Int32), f_X10_crossing_L5 t0 fu l1 l2 l3 l4 M = some t → P 43 [none, none, none, some (.int t), none] [] LAY M → P 5 [some (.ref t0), some (.int l1), some (.int l2), some (.int l3), some (.int l4)] [] LAY M := by
  have hd1 : 1 ≤ d := by omega
  intro fu
  induction fu with
  | zero => intro l1 l2 l3 l4 M t hf; simp [f_X10_crossing_L5] at hf
  | succ fu ih =>
    intro l1 l2 l3 l4 M t hf hx
    rw [f_X10_crossing_L5] at hf
    refine x_iload hP dX10_crossing_5 rfl ?_
    refine x_aload_n hP dX10_crossing_7 rfl ?_
    refine x_getI hP fX10_28 (layT ht0) dX10_crossing_8 ?_
    refine x_icmp_ge hP dX10_crossing_11 (tgt := 43) (by decide) (fun c1 => ?_) (fun c1 => ?_)
    · replace hf := p_t c1 hf
      refine x_drop hP [none, none, none, some (.int l3), none] (And.intro rfl trivial) ?_
      cases hf
      exact hx
    · replace hf := p_f c1 hf
      refine x_iload_n hP dX10_crossing_14 rfl ?_
      refine x_iload hP dX10_crossing_15 rfl ?_
      refine x_ishr hP dX10_crossing_17 ?_
      refine x_iconst hP dX10_crossing_18 (v := 1) rfl ?_
      refine x_iand hP dX10_crossing_19 ?_
      refine x_iconst hP dX10_crossing_20 (v := 1) rfl ?_
      refine x_icmp_ne hP dX10_crossing_21 (tgt := 37) (by decide) (fun c2 => ?_) (fun c2 => ?_)
      · replace hf := p_f c2 hf
        obtain ⟨v9, hv9, hf⟩ := b_lt hf
        refine x_iinc hP (v := v9) (ls2 := [some (.ref t0), some (.int l1), some (.int l2), some (.int l3), some (.int v9)]) dX10_crossing_37 rfl (by rw [hv9]; rfl) rfl rfl ?_
        refine x_goto hP dX10_crossing_40 (tgt := 5) (by decide) ?_
        refine x_drop hP [some (.ref t0), some (.int l1), some (.int l2), some (.int l3), some (.int v9)] (And.intro rfl (And.intro rfl (And.intro rfl (And.intro rfl (And.intro rfl trivial))))) ?_
        exact ih _ _ _ _ _ _ hf hx
      · replace hf := p_t c2 hf
        refine x_aload_n hP dX10_crossing_24 rfl ?_
        refine x_iload_n hP dX10_crossing_25 rfl ?_
        refine x_iload hP dX10_crossing_26 rfl ?_
        obtain ⟨v4, hc3, hf⟩ := b_bd hf
        refine y_csi hP oX10_isCrossing lX10_94 [.ref t0, .int l1, .int l4] [] rfl rfl rfl dX10_crossing_28 (t_X10_isCrossing (d := d - 1) (by omega) ht0 hc3) (by omega) ?_
        refine x_if_eq hP dX10_crossing_31 (tgt := 37) (by decide) (fun c5 => ?_) (fun c5 => ?_)
        · replace hf := p_t c5 hf
          obtain ⟨v6, hv6, hf⟩ := b_lt hf
          refine x_iinc hP (v := v6) (ls2 := [some (.ref t0), some (.int l1), some (.int l2), some (.int l3), some (.int v6)]) dX10_crossing_37 rfl (by rw [hv6]; rfl) rfl rfl ?_
          refine x_goto hP dX10_crossing_40 (tgt := 5) (by decide) ?_
          refine x_drop hP [some (.ref t0), some (.int l1), some (.int l2), some (.int l3), some (.int v6)] (And.intro rfl (And.intro rfl (And.intro rfl (And.intro rfl (And.intro rfl trivial))))) ?_
          exact ih _ _ _ _ _ _ hf hx
        · replace hf := p_f c5 hf
          obtain ⟨v7, hv7, hf⟩ := b_lt hf
          refine x_iinc hP (v := v7) (ls2 := [some (.ref t0), some (.int l1), some (.int l2), some (.int v7), some (.int l4)]) dX10_crossing_34 rfl (by rw [hv7]; rfl) rfl rfl ?_
          obtain ⟨v8, hv8, hf⟩ := b_lt hf
          refine x_iinc hP (v := v8) (ls2 := [some (.ref t0), some (.int l1), some (.int l2), some (.int v7), some (.int v8)]) dX10_crossing_37 rfl (by rw [hv8]; rfl) rfl rfl ?_
          refine x_goto hP dX10_crossing_40 (tgt := 5) (by decide) ?_
          refine x_drop hP [some (.ref t0), some (.int l1), some (.int l2), some (.int v7), some (.int v8)] (And.intro rfl (And.intro rfl (And.intro rfl (And.intro rfl (And.intro rfl trivial))))) ?_
          exact ih _ _ _ _ _ _ hf hx
set_option maxHeartbeats 1000000 in
set_option maxRecDepth 20000 in
theorem t_X10_crossing {g : GG} {d : Nat} (hd : 2 ≤ d) {t0 : Nat} (ht0 : isT t0) {x1 : Int32} {x2 : Int32} {M : Mem} {r : Int32} (hf : f_X10_crossing t0 x1 x2 M = some r) : ExM g d iX10_crossing [.ref t0, .int x1, .int x2] LAY M (some (.int r), LAY, M) := by
  have hd1 : 1 ≤ d := by omega
  refine ExM.main pnX10 rfl (ls := [some (.ref t0), some (.int x1), some (.int x2), none, none]) rfl ?_
  intro P hP
  rw [f_X10_crossing] at hf
  refine x_iconst hP dX10_crossing_0 (v := 0) rfl ?_
  refine x_istore_n hP (ls2 := [some (.ref t0), some (.int x1), some (.int x2), some (.int (0 : Int32)), none]) dX10_crossing_1 rfl rfl rfl ?_
  refine x_iconst hP dX10_crossing_2 (v := 0) rfl ?_
  refine x_istore hP (ls2 := [some (.ref t0), some (.int x1), some (.int x2), some (.int (0 : Int32)), some (.int (0 : Int32))]) dX10_crossing_3 rfl rfl ?_
  refine x_drop hP [some (.ref t0), some (.int x1), some (.int x2), some (.int (0 : Int32)), some (.int (0 : Int32))] (And.intro rfl (And.intro rfl (And.intro rfl (And.intro rfl (And.intro rfl trivial))))) ?_
  obtain ⟨t10, hl11, hf⟩ := b_bd hf
  refine t_X10_crossing_L5 hd ht0 hP _ _ _ _ _ _ _ hl11 ?_
  refine x_iload_n hP dX10_crossing_43 rfl ?_
  cases hf
  exact x_iret hP rfl dX10_crossing_44
def f_X10_fewestBetween_L7 (t1 : Nat) : Nat → Int32 → Int32 → Int32 → Int32 → Int32 → Mem → Option (Int32)
  | 0, _, _, _, _, _, _ => none
  | fu + 1, l2, l3, l4, l5, l6, M =>
    if (1 : Int32) <<< ((M.1 t1 10) &&& 31) ≤ l6 then
      some l5
    else
      if (l6 >>> (l2 &&& 31)) &&& (1 : Int32) = (1 : Int32) then
        if (l6 >>> (l3 &&& 31)) &&& (1 : Int32) = 0 then
          (f_X10_crossing t1 l6 l4 M).bind fun v5 =>
          lt (if v5 < l5 then v5 else l5 : Int32) fun v6 =>
          lt (l6 + 1 : Int32) fun v7 =>
          f_X10_fewestBetween_L7 t1 fu l2 l3 l4 v6 v7 M
        else
          lt (l6 + 1 : Int32) fun v8 =>
          f_X10_fewestBetween_L7 t1 fu l2 l3 l4 l5 v8 M
      else
        lt (l6 + 1 : Int32) fun v9 =>
        f_X10_fewestBetween_L7 t1 fu l2 l3 l4 l5 v9 M
def f_X10_fewestBetween (t1 : Nat) (x2 : Int32) (x3 : Int32) (x4 : Int32) (M : Mem) : Option (Int32) :=
  (f_X10_fewestBetween_L7 t1 FU x2 x3 x4 (10 : Int32) (0 : Int32) M).bind fun t10 =>
  some t10
set_option maxHeartbeats 1000000 in
set_option maxRecDepth 20000 in
theorem t_X10_fewestBetween_L7 {g : GG} {d : Nat} {P : PT} {res : Option RS} (hd : 3 ≤ d) {t1 : Nat} (ht1 : isT t1) (hP : IsM g iX10_fewestBetween d res P) : ∀ (fu : Nat) (l2 : Int32) (l3 : Int32) (l4 : Int32) (l5 : Int32) (l6 : Int32) (M : Mem) (t : Int32), f_X10_fewestBetween_L7 t1 fu l2 l3 l4 l5 l6 M = some t → P 58 [none, none, none, none, none, some (.int t), none] [] LAY M → P 7 [none, some (.ref t1), some (.int l2), some (.int l3), some (.int l4), some (.int l5), some (.int l6)] [] LAY M := by
  have hd1 : 1 ≤ d := by omega
  intro fu
  induction fu with
  | zero => intro l2 l3 l4 l5 l6 M t hf; simp [f_X10_fewestBetween_L7] at hf
  | succ fu ih =>
    intro l2 l3 l4 l5 l6 M t hf hx
    rw [f_X10_fewestBetween_L7] at hf
    refine x_iload hP dX10_fewestBetween_7 rfl ?_
    refine x_iconst hP dX10_fewestBetween_9 (v := 1) rfl ?_
    refine x_aload_n hP dX10_fewestBetween_10 rfl ?_
    refine x_getI hP fX10_22 (layT ht1) dX10_fewestBetween_11 ?_
    refine x_ishl hP dX10_fewestBetween_14 ?_
    refine x_icmp_ge hP dX10_fewestBetween_15 (tgt := 58) (by decide) (fun c1 => ?_) (fun c1 => ?_)
    · replace hf := p_t c1 hf
      refine x_drop hP [none, none, none, none, none, some (.int l5), none] (And.intro rfl trivial) ?_
      cases hf
      exact hx
    · replace hf := p_f c1 hf
      refine x_iload hP dX10_fewestBetween_18 rfl ?_
      refine x_iload_n hP dX10_fewestBetween_20 rfl ?_
      refine x_ishr hP dX10_fewestBetween_21 ?_
      refine x_iconst hP dX10_fewestBetween_22 (v := 1) rfl ?_
      refine x_iand hP dX10_fewestBetween_23 ?_
      refine x_iconst hP dX10_fewestBetween_24 (v := 1) rfl ?_
      refine x_icmp_ne hP dX10_fewestBetween_25 (tgt := 52) (by decide) (fun c2 => ?_) (fun c2 => ?_)
      · replace hf := p_f c2 hf
        obtain ⟨v9, hv9, hf⟩ := b_lt hf
        refine x_iinc hP (v := v9) (ls2 := [none, some (.ref t1), some (.int l2), some (.int l3), some (.int l4), some (.int l5), some (.int v9)]) dX10_fewestBetween_52 rfl (by rw [hv9]; rfl) rfl rfl ?_
        refine x_goto hP dX10_fewestBetween_55 (tgt := 7) (by decide) ?_
        refine x_drop hP [none, some (.ref t1), some (.int l2), some (.int l3), some (.int l4), some (.int l5), some (.int v9)] (And.intro rfl (And.intro rfl (And.intro rfl (And.intro rfl (And.intro rfl (And.intro rfl trivial)))))) ?_
        exact ih _ _ _ _ _ _ _ hf hx
      · replace hf := p_t c2 hf
        refine x_iload hP dX10_fewestBetween_28 rfl ?_
        refine x_iload_n hP dX10_fewestBetween_30 rfl ?_
        refine x_ishr hP dX10_fewestBetween_31 ?_
        refine x_iconst hP dX10_fewestBetween_32 (v := 1) rfl ?_
        refine x_iand hP dX10_fewestBetween_33 ?_
        refine x_if_ne hP dX10_fewestBetween_34 (tgt := 52) (by decide) (fun c3 => ?_) (fun c3 => ?_)
        · replace hf := p_f c3 hf
          obtain ⟨v8, hv8, hf⟩ := b_lt hf
          refine x_iinc hP (v := v8) (ls2 := [none, some (.ref t1), some (.int l2), some (.int l3), some (.int l4), some (.int l5), some (.int v8)]) dX10_fewestBetween_52 rfl (by rw [hv8]; rfl) rfl rfl ?_
          refine x_goto hP dX10_fewestBetween_55 (tgt := 7) (by decide) ?_
          refine x_drop hP [none, some (.ref t1), some (.int l2), some (.int l3), some (.int l4), some (.int l5), some (.int v8)] (And.intro rfl (And.intro rfl (And.intro rfl (And.intro rfl (And.intro rfl (And.intro rfl trivial)))))) ?_
          exact ih _ _ _ _ _ _ _ hf hx
        · replace hf := p_t c3 hf
          refine x_iload hP dX10_fewestBetween_37 rfl ?_
          refine x_aload_n hP dX10_fewestBetween_39 rfl ?_
          refine x_iload hP dX10_fewestBetween_40 rfl ?_
          refine x_iload hP dX10_fewestBetween_42 rfl ?_
          obtain ⟨v5, hc4, hf⟩ := b_bd hf
          refine y_csi hP oX10_crossing lX10_71 [.ref t1, .int l6, .int l4] [.int l5] rfl rfl rfl dX10_fewestBetween_44 (t_X10_crossing (d := d - 1) (by omega) ht1 hc4) (by omega) ?_
          refine y_min hP lX10_75 rfl hd1 dX10_fewestBetween_47 ?_
          obtain ⟨v6, hv6, hf⟩ := b_lt hf
          refine y_nmI hv6 ?_
          refine x_istore hP (ls2 := [none, some (.ref t1), some (.int l2), some (.int l3), some (.int l4), some (.int v6), some (.int l6)]) dX10_fewestBetween_50 rfl rfl ?_
          obtain ⟨v7, hv7, hf⟩ := b_lt hf
          refine x_iinc hP (v := v7) (ls2 := [none, some (.ref t1), some (.int l2), some (.int l3), some (.int l4), some (.int v6), some (.int v7)]) dX10_fewestBetween_52 rfl (by rw [hv7]; rfl) rfl rfl ?_
          refine x_goto hP dX10_fewestBetween_55 (tgt := 7) (by decide) ?_
          refine x_drop hP [none, some (.ref t1), some (.int l2), some (.int l3), some (.int l4), some (.int v6), some (.int v7)] (And.intro rfl (And.intro rfl (And.intro rfl (And.intro rfl (And.intro rfl (And.intro rfl trivial)))))) ?_
          exact ih _ _ _ _ _ _ _ hf hx
set_option maxHeartbeats 1000000 in
set_option maxRecDepth 20000 in
theorem t_X10_fewestBetween {g : GG} {d : Nat} (hd : 3 ≤ d) {t1 : Nat} (ht1 : isT t1) {x2 : Int32} {x3 : Int32} {x4 : Int32} {M : Mem} {r : Int32} (hf : f_X10_fewestBetween t1 x2 x3 x4 M = some r) : ExM g d iX10_fewestBetween [.ref 45, .ref t1, .int x2, .int x3, .int x4] LAY M (some (.int r), LAY, M) := by
  have hd1 : 1 ≤ d := by omega
  refine ExM.main pnX10 rfl (ls := [some (.ref 45), some (.ref t1), some (.int x2), some (.int x3), some (.int x4), none, none]) rfl ?_
  intro P hP
  rw [f_X10_fewestBetween] at hf
  refine x_bipush hP dX10_fewestBetween_0 (v := 10) rfl ?_
  refine x_istore hP (ls2 := [some (.ref 45), some (.ref t1), some (.int x2), some (.int x3), some (.int x4), some (.int (10 : Int32)), none]) dX10_fewestBetween_2 rfl rfl ?_
  refine x_iconst hP dX10_fewestBetween_4 (v := 0) rfl ?_
  refine x_istore hP (ls2 := [some (.ref 45), some (.ref t1), some (.int x2), some (.int x3), some (.int x4), some (.int (10 : Int32)), some (.int (0 : Int32))]) dX10_fewestBetween_5 rfl rfl ?_
  refine x_drop hP [none, some (.ref t1), some (.int x2), some (.int x3), some (.int x4), some (.int (10 : Int32)), some (.int (0 : Int32))] (And.intro rfl (And.intro rfl (And.intro rfl (And.intro rfl (And.intro rfl (And.intro rfl trivial)))))) ?_
  obtain ⟨t10, hl11, hf⟩ := b_bd hf
  refine t_X10_fewestBetween_L7 hd ht1 hP _ _ _ _ _ _ _ _ hl11 ?_
  refine x_iload hP dX10_fewestBetween_58 rfl ?_
  cases hf
  exact x_iret hP rfl dX10_fewestBetween_60
def f_X10_shortestOutOf_L4 (t0 : Nat) : Nat → Int32 → Int32 → Int32 → Mem → Option (Int32)
  | 0, _, _, _, _ => none
  | fu + 1, l1, l2, l3, M =>
    if M.1 t0 11 ≤ l3 then
      some l2
    else
      (f_X10_isCrossing t0 l1 l3 M).bind fun v3 =>
      if v3 = 0 then
        lt (l3 + 1 : Int32) fun v5 =>
        f_X10_shortestOutOf_L4 t0 fu l1 l2 v5 M
      else
        if l2 = (-1 : Int32) then
          lt (l3 + 1 : Int32) fun v7 =>
          f_X10_shortestOutOf_L4 t0 fu l1 l3 v7 M
        else
          (ag M (t0 + 3) 10 l3).bind fun v8 =>
          (ag M (t0 + 3) 10 l2).bind fun v9 =>
          if v9 ≤ v8 then
            lt (l3 + 1 : Int32) fun v11 =>
            f_X10_shortestOutOf_L4 t0 fu l1 l2 v11 M
          else
            lt (l3 + 1 : Int32) fun v12 =>
            f_X10_shortestOutOf_L4 t0 fu l1 l3 v12 M
def f_X10_shortestOutOf (t0 : Nat) (x1 : Int32) (M : Mem) : Option (Int32) :=
  (f_X10_shortestOutOf_L4 t0 FU x1 (-1 : Int32) (0 : Int32) M).bind fun t13 =>
  some t13
set_option maxHeartbeats 1000000 in
set_option maxRecDepth 20000 in
theorem t_X10_shortestOutOf_L4 {g : GG} {d : Nat} {P : PT} {res : Option RS} (hd : 2 ≤ d) {t0 : Nat} (ht0 : isT t0) (hP : IsM g iX10_shortestOutOf d res P) : ∀ (fu : Nat) (l1 : Int32) (l2 : Int32) (l3 : Int32) (M : Mem) (t : Int32), f_X10_shortestOutOf_L4 t0 fu l1 l2 l3 M = some t → P 49 [none, none, some (.int t), none] [] LAY M → P 4 [some (.ref t0), some (.int l1), some (.int l2), some (.int l3)] [] LAY M := by
  have hd1 : 1 ≤ d := by omega
  intro fu
  induction fu with
  | zero => intro l1 l2 l3 M t hf; simp [f_X10_shortestOutOf_L4] at hf
  | succ fu ih =>
    intro l1 l2 l3 M t hf hx
    rw [f_X10_shortestOutOf_L4] at hf
    refine x_iload_n hP dX10_shortestOutOf_4 rfl ?_
    refine x_aload_n hP dX10_shortestOutOf_5 rfl ?_
    refine x_getI hP fX10_28 (layT ht0) dX10_shortestOutOf_6 ?_
    refine x_icmp_ge hP dX10_shortestOutOf_9 (tgt := 49) (by decide) (fun c1 => ?_) (fun c1 => ?_)
    · replace hf := p_t c1 hf
      refine x_drop hP [none, none, some (.int l2), none] (And.intro rfl trivial) ?_
      cases hf
      exact hx
    · replace hf := p_f c1 hf
      refine x_aload_n hP dX10_shortestOutOf_12 rfl ?_
      refine x_iload_n hP dX10_shortestOutOf_13 rfl ?_
      refine x_iload_n hP dX10_shortestOutOf_14 rfl ?_
      obtain ⟨v3, hc2, hf⟩ := b_bd hf
      refine y_csi hP oX10_isCrossing lX10_94 [.ref t0, .int l1, .int l3] [] rfl rfl rfl dX10_shortestOutOf_15 (t_X10_isCrossing (d := d - 1) (by omega) ht0 hc2) (by omega) ?_
      refine x_if_eq hP dX10_shortestOutOf_18 (tgt := 43) (by decide) (fun c4 => ?_) (fun c4 => ?_)
      · replace hf := p_t c4 hf
        obtain ⟨v5, hv5, hf⟩ := b_lt hf
        refine x_iinc hP (v := v5) (ls2 := [some (.ref t0), some (.int l1), some (.int l2), some (.int v5)]) dX10_shortestOutOf_43 rfl (by rw [hv5]; rfl) rfl rfl ?_
        refine x_goto hP dX10_shortestOutOf_46 (tgt := 4) (by decide) ?_
        refine x_drop hP [some (.ref t0), some (.int l1), some (.int l2), some (.int v5)] (And.intro rfl (And.intro rfl (And.intro rfl (And.intro rfl trivial)))) ?_
        exact ih _ _ _ _ _ hf hx
      · replace hf := p_f c4 hf
        refine x_iload_n hP dX10_shortestOutOf_21 rfl ?_
        refine x_iconst hP dX10_shortestOutOf_22 (v := (-1)) rfl ?_
        refine x_icmp_eq hP dX10_shortestOutOf_23 (tgt := 41) (by decide) (fun c6 => ?_) (fun c6 => ?_)
        · replace hf := p_t c6 hf
          refine x_iload_n hP dX10_shortestOutOf_41 rfl ?_
          refine x_istore_n hP (ls2 := [some (.ref t0), some (.int l1), some (.int l3), some (.int l3)]) dX10_shortestOutOf_42 rfl rfl rfl ?_
          obtain ⟨v7, hv7, hf⟩ := b_lt hf
          refine x_iinc hP (v := v7) (ls2 := [some (.ref t0), some (.int l1), some (.int l3), some (.int v7)]) dX10_shortestOutOf_43 rfl (by rw [hv7]; rfl) rfl rfl ?_
          refine x_goto hP dX10_shortestOutOf_46 (tgt := 4) (by decide) ?_
          refine x_drop hP [some (.ref t0), some (.int l1), some (.int l3), some (.int v7)] (And.intro rfl (And.intro rfl (And.intro rfl (And.intro rfl trivial)))) ?_
          exact ih _ _ _ _ _ hf hx
        · replace hf := p_f c6 hf
          refine x_aload_n hP dX10_shortestOutOf_26 rfl ?_
          refine x_getA hP fX10_85 (layT ht0) (r := t0 + 3) rfl dX10_shortestOutOf_27 ?_
          refine x_iload_n hP dX10_shortestOutOf_30 rfl ?_
          obtain ⟨v8, hiv8, hv8, hf⟩ := b_ag hf
          refine y_ald hP (layT_3 ht0) hiv8 hv8 dX10_shortestOutOf_31 ?_
          refine x_aload_n hP dX10_shortestOutOf_32 rfl ?_
          refine x_getA hP fX10_85 (layT ht0) (r := t0 + 3) rfl dX10_shortestOutOf_33 ?_
          refine x_iload_n hP dX10_shortestOutOf_36 rfl ?_
          obtain ⟨v9, hiv9, hv9, hf⟩ := b_ag hf
          refine y_ald hP (layT_3 ht0) hiv9 hv9 dX10_shortestOutOf_37 ?_
          refine x_icmp_ge hP dX10_shortestOutOf_38 (tgt := 43) (by decide) (fun c10 => ?_) (fun c10 => ?_)
          · replace hf := p_t c10 hf
            obtain ⟨v11, hv11, hf⟩ := b_lt hf
            refine x_iinc hP (v := v11) (ls2 := [some (.ref t0), some (.int l1), some (.int l2), some (.int v11)]) dX10_shortestOutOf_43 rfl (by rw [hv11]; rfl) rfl rfl ?_
            refine x_goto hP dX10_shortestOutOf_46 (tgt := 4) (by decide) ?_
            refine x_drop hP [some (.ref t0), some (.int l1), some (.int l2), some (.int v11)] (And.intro rfl (And.intro rfl (And.intro rfl (And.intro rfl trivial)))) ?_
            exact ih _ _ _ _ _ hf hx
          · replace hf := p_f c10 hf
            refine x_iload_n hP dX10_shortestOutOf_41 rfl ?_
            refine x_istore_n hP (ls2 := [some (.ref t0), some (.int l1), some (.int l3), some (.int l3)]) dX10_shortestOutOf_42 rfl rfl rfl ?_
            obtain ⟨v12, hv12, hf⟩ := b_lt hf
            refine x_iinc hP (v := v12) (ls2 := [some (.ref t0), some (.int l1), some (.int l3), some (.int v12)]) dX10_shortestOutOf_43 rfl (by rw [hv12]; rfl) rfl rfl ?_
            refine x_goto hP dX10_shortestOutOf_46 (tgt := 4) (by decide) ?_
            refine x_drop hP [some (.ref t0), some (.int l1), some (.int l3), some (.int v12)] (And.intro rfl (And.intro rfl (And.intro rfl (And.intro rfl trivial)))) ?_
            exact ih _ _ _ _ _ hf hx
set_option maxHeartbeats 1000000 in
set_option maxRecDepth 20000 in
theorem t_X10_shortestOutOf {g : GG} {d : Nat} (hd : 2 ≤ d) {t0 : Nat} (ht0 : isT t0) {x1 : Int32} {M : Mem} {r : Int32} (hf : f_X10_shortestOutOf t0 x1 M = some r) : ExM g d iX10_shortestOutOf [.ref t0, .int x1] LAY M (some (.int r), LAY, M) := by
  have hd1 : 1 ≤ d := by omega
  refine ExM.main pnX10 rfl (ls := [some (.ref t0), some (.int x1), none, none]) rfl ?_
  intro P hP
  rw [f_X10_shortestOutOf] at hf
  refine x_iconst hP dX10_shortestOutOf_0 (v := (-1)) rfl ?_
  refine x_istore_n hP (ls2 := [some (.ref t0), some (.int x1), some (.int (-1 : Int32)), none]) dX10_shortestOutOf_1 rfl rfl rfl ?_
  refine x_iconst hP dX10_shortestOutOf_2 (v := 0) rfl ?_
  refine x_istore_n hP (ls2 := [some (.ref t0), some (.int x1), some (.int (-1 : Int32)), some (.int (0 : Int32))]) dX10_shortestOutOf_3 rfl rfl rfl ?_
  refine x_drop hP [some (.ref t0), some (.int x1), some (.int (-1 : Int32)), some (.int (0 : Int32))] (And.intro rfl (And.intro rfl (And.intro rfl (And.intro rfl trivial)))) ?_
  obtain ⟨t13, hl14, hf⟩ := b_bd hf
  refine t_X10_shortestOutOf_L4 hd ht0 hP _ _ _ _ _ _ hl14 ?_
  refine x_iload_n hP dX10_shortestOutOf_49 rfl ?_
  cases hf
  exact x_iret hP rfl dX10_shortestOutOf_50
def f_X10_shortestJoin_L17 (t1 : Nat) (k : Int32 → Option (Int32)) : Nat → Int32 → Int32 → Int32 → Mem → Option (Int32)
  | 0, _, _, _, _ => none
  | fu + 1, l2, l3, l4, M =>
    if M.1 t1 10 ≤ l4 then
      k l3
    else
      (f_X10_shortestOutOf t1 l2 M).bind fun v4 =>
      if v4 = (-1 : Int32) then
        some (-2 : Int32)
      else
        (ag M (t1 + 1) 10 v4).bind fun v6 =>
        (ag M (t1 + 2) 10 v4).bind fun v7 =>
        lt (l2 ||| (((1 : Int32) <<< (v6 &&& 31)) ||| ((1 : Int32) <<< (v7 &&& 31))) : Int32) fun v8 =>
        (ag M (t1 + 3) 10 v4).bind fun v9 =>
        lt (l3 + v9 : Int32) fun v10 =>
        lt (l4 + 1 : Int32) fun v11 =>
        f_X10_shortestJoin_L17 t1 k fu v8 v10 v11 M
def f_X10_shortestJoin (t1 : Nat) (M : Mem) : Option (Int32) :=
  if M.1 t1 10 = 0 then
    some (-2 : Int32)
  else
    f_X10_shortestJoin_L17 t1 (fun t12 =>
        some t12
      ) FU (1 : Int32) (0 : Int32) (1 : Int32) M
set_option maxHeartbeats 1000000 in
set_option maxRecDepth 20000 in
theorem t_X10_shortestJoin_L17 {g : GG} {d : Nat} {P : PT} {M : Mem} {r : Int32} (hd : 3 ≤ d) {t1 : Nat} (ht1 : isT t1)  (hP : IsM g iX10_shortestJoin d (some (some (.int r), LAY, M)) P) {k : Int32 → Option (Int32)} (hk : ∀ t : Int32, k t = some r → P 80 [none, none, none, some (.int t), none, none] [] LAY M) : ∀ (fu : Nat) (l2 : Int32) (l3 : Int32) (l4 : Int32), f_X10_shortestJoin_L17 t1 k fu l2 l3 l4 M = some r → P 17 [none, some (.ref t1), some (.int l2), some (.int l3), some (.int l4), none] [] LAY M := by
  have hd1 : 1 ≤ d := by omega
  intro fu
  induction fu with
  | zero => intro l2 l3 l4 hf; simp [f_X10_shortestJoin_L17] at hf
  | succ fu ih =>
    intro l2 l3 l4 hf
    rw [f_X10_shortestJoin_L17] at hf
    refine x_iload hP dX10_shortestJoin_17 rfl ?_
    refine x_aload_n hP dX10_shortestJoin_19 rfl ?_
    refine x_getI hP fX10_22 (layT ht1) dX10_shortestJoin_20 ?_
    refine x_icmp_ge hP dX10_shortestJoin_23 (tgt := 80) (by decide) (fun c2 => ?_) (fun c2 => ?_)
    · replace hf := p_t c2 hf
      refine x_drop hP [none, none, none, some (.int l3), none, none] (And.intro rfl trivial) ?_
      exact hk _ hf
    · replace hf := p_f c2 hf
      refine x_aload_n hP dX10_shortestJoin_26 rfl ?_
      refine x_iload_n hP dX10_shortestJoin_27 rfl ?_
      obtain ⟨v4, hc3, hf⟩ := b_bd hf
      refine y_csi hP oX10_shortestOutOf lX10_81 [.ref t1, .int l2] [] rfl rfl rfl dX10_shortestJoin_28 (t_X10_shortestOutOf (d := d - 1) (by omega) ht1 hc3) (by omega) ?_
      refine x_istore hP (ls2 := [none, some (.ref t1), some (.int l2), some (.int l3), some (.int l4), some (.int v4)]) dX10_shortestJoin_31 rfl rfl ?_
      refine x_iload hP dX10_shortestJoin_33 rfl ?_
      refine x_iconst hP dX10_shortestJoin_35 (v := (-1)) rfl ?_
      refine x_icmp_ne hP dX10_shortestJoin_36 (tgt := 42) (by decide) (fun c5 => ?_) (fun c5 => ?_)
      · replace hf := p_f c5 hf
        refine x_iload_n hP dX10_shortestJoin_42 rfl ?_
        refine x_iconst hP dX10_shortestJoin_43 (v := 1) rfl ?_
        refine x_aload_n hP dX10_shortestJoin_44 rfl ?_
        refine x_getA hP fX10_31 (layT ht1) (r := t1 + 1) rfl dX10_shortestJoin_45 ?_
        refine x_iload hP dX10_shortestJoin_48 rfl ?_
        obtain ⟨v6, hiv6, hv6, hf⟩ := b_ag hf
        refine y_ald hP (layT_1 ht1) hiv6 hv6 dX10_shortestJoin_50 ?_
        refine x_ishl hP dX10_shortestJoin_51 ?_
        refine x_iconst hP dX10_shortestJoin_52 (v := 1) rfl ?_
        refine x_aload_n hP dX10_shortestJoin_53 rfl ?_
        refine x_getA hP fX10_34 (layT ht1) (r := t1 + 2) rfl dX10_shortestJoin_54 ?_
        refine x_iload hP dX10_shortestJoin_57 rfl ?_
        obtain ⟨v7, hiv7, hv7, hf⟩ := b_ag hf
        refine y_ald hP (layT_2 ht1) hiv7 hv7 dX10_shortestJoin_59 ?_
        refine x_ishl hP dX10_shortestJoin_60 ?_
        refine x_ior hP dX10_shortestJoin_61 ?_
        refine x_ior hP dX10_shortestJoin_62 ?_
        obtain ⟨v8, hv8, hf⟩ := b_lt hf
        refine y_nmI hv8 ?_
        refine x_istore_n hP (ls2 := [none, some (.ref t1), some (.int v8), some (.int l3), some (.int l4), some (.int v4)]) dX10_shortestJoin_63 rfl rfl rfl ?_
        refine x_iload_n hP dX10_shortestJoin_64 rfl ?_
        refine x_aload_n hP dX10_shortestJoin_65 rfl ?_
        refine x_getA hP fX10_85 (layT ht1) (r := t1 + 3) rfl dX10_shortestJoin_66 ?_
        refine x_iload hP dX10_shortestJoin_69 rfl ?_
        obtain ⟨v9, hiv9, hv9, hf⟩ := b_ag hf
        refine y_ald hP (layT_3 ht1) hiv9 hv9 dX10_shortestJoin_71 ?_
        refine x_iadd hP dX10_shortestJoin_72 ?_
        obtain ⟨v10, hv10, hf⟩ := b_lt hf
        refine y_nmI hv10 ?_
        refine x_istore_n hP (ls2 := [none, some (.ref t1), some (.int v8), some (.int v10), some (.int l4), some (.int v4)]) dX10_shortestJoin_73 rfl rfl rfl ?_
        obtain ⟨v11, hv11, hf⟩ := b_lt hf
        refine x_iinc hP (v := v11) (ls2 := [none, some (.ref t1), some (.int v8), some (.int v10), some (.int v11), some (.int v4)]) dX10_shortestJoin_74 rfl (by rw [hv11]; rfl) rfl rfl ?_
        refine x_goto hP dX10_shortestJoin_77 (tgt := 17) (by decide) ?_
        refine x_drop hP [none, some (.ref t1), some (.int v8), some (.int v10), some (.int v11), none] (And.intro rfl (And.intro rfl (And.intro rfl (And.intro rfl trivial)))) ?_
        exact ih _ _ _ hf
      · replace hf := p_t c5 hf
        refine x_bipush hP dX10_shortestJoin_39 (v := (-2)) rfl ?_
        cases hf
        exact x_iret hP rfl dX10_shortestJoin_41
set_option maxHeartbeats 1000000 in
set_option maxRecDepth 20000 in
theorem t_X10_shortestJoin {g : GG} {d : Nat} (hd : 3 ≤ d) {t1 : Nat} (ht1 : isT t1) {M : Mem} {r : Int32} (hf : f_X10_shortestJoin t1 M = some r) : ExM g d iX10_shortestJoin [.ref 45, .ref t1] LAY M (some (.int r), LAY, M) := by
  have hd1 : 1 ≤ d := by omega
  refine ExM.main pnX10 rfl (ls := [some (.ref 45), some (.ref t1), none, none, none, none]) rfl ?_
  intro P hP
  rw [f_X10_shortestJoin] at hf
  refine x_aload_n hP dX10_shortestJoin_0 rfl ?_
  refine x_getI hP fX10_22 (layT ht1) dX10_shortestJoin_1 ?_
  refine x_if_ne hP dX10_shortestJoin_4 (tgt := 10) (by decide) (fun c1 => ?_) (fun c1 => ?_)
  · replace hf := p_f c1 hf
    refine x_iconst hP dX10_shortestJoin_10 (v := 1) rfl ?_
    refine x_istore_n hP (ls2 := [some (.ref 45), some (.ref t1), some (.int (1 : Int32)), none, none, none]) dX10_shortestJoin_11 rfl rfl rfl ?_
    refine x_iconst hP dX10_shortestJoin_12 (v := 0) rfl ?_
    refine x_istore_n hP (ls2 := [some (.ref 45), some (.ref t1), some (.int (1 : Int32)), some (.int (0 : Int32)), none, none]) dX10_shortestJoin_13 rfl rfl rfl ?_
    refine x_iconst hP dX10_shortestJoin_14 (v := 1) rfl ?_
    refine x_istore hP (ls2 := [some (.ref 45), some (.ref t1), some (.int (1 : Int32)), some (.int (0 : Int32)), some (.int (1 : Int32)), none]) dX10_shortestJoin_15 rfl rfl ?_
    refine x_drop hP [none, some (.ref t1), some (.int (1 : Int32)), some (.int (0 : Int32)), some (.int (1 : Int32)), none] (And.intro rfl (And.intro rfl (And.intro rfl (And.intro rfl trivial)))) ?_
    refine t_X10_shortestJoin_L17 hd ht1 hP (fun t12 hf => ?_) _ _ _ _ hf
    refine x_iload_n hP dX10_shortestJoin_80 rfl ?_
    cases hf
    exact x_iret hP rfl dX10_shortestJoin_81
  · replace hf := p_t c1 hf
    refine x_bipush hP dX10_shortestJoin_7 (v := (-2)) rfl ?_
    cases hf
    exact x_iret hP rfl dX10_shortestJoin_9

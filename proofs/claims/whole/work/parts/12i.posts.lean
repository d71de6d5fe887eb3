-- by program: wip/whole/gen/build_parts.py
def f_X5_standLast_L18 (n1 : Nat) : Nat → Nat → Int32 → Int32 → Mem → Option (Int32 × Mem)
  | 0, _, _, _, _ => none
  | fu + 1, l2, l3, l4, M =>
    if M.1 l2 11 ≤ l4 then
      some (l3, M)
    else
      (ag M (l2 + 3) 10 l4).bind fun v5 =>
      (ag M (l2 + 1) 10 l4).bind fun v6 =>
      (ag M 50 7 v6).bind fun v7 =>
      (ag M (l2 + 2) 10 l4).bind fun v8 =>
      (ag M 50 7 v8).bind fun v9 =>
      lt ((v5 - v7) - v9 : Int32) fun v10 =>
      if 0 < v10 then
        (ag M (n1 + 2) 6 (M.1 48 6)).bind fun v12 =>
        if v12 < v10 then
          lt (l4 + 1 : Int32) fun v14 =>
          f_X5_standLast_L18 n1 fu l2 l3 v14 M
        else
          (ag M (l2 + 1) 10 l4).bind fun v15 =>
          (ag M 51 7 v15).bind fun v16 =>
          (pg M 51 7 v15 (v16 + (1 : Int32))).bind fun M17 =>
          (ag M17 (l2 + 2) 10 l4).bind fun v18 =>
          (ag M17 51 7 v18).bind fun v19 =>
          (pg M17 51 7 v18 (v19 + (1 : Int32))).bind fun M20 =>
          lt (l4 + 1 : Int32) fun v21 =>
          f_X5_standLast_L18 n1 fu l2 l3 v21 M20
      else
        lt (l3 + 1 : Int32) fun v22 =>
        lt (l4 + 1 : Int32) fun v23 =>
        f_X5_standLast_L18 n1 fu l2 v22 v23 M
def f_X5_standLast_L128 (n1 : Nat) : Nat → Nat → Int32 → Int32 → Mem → Option (Mem)
  | 0, _, _, _, _ => none
  | fu + 1, l2, l3, l4, M =>
    if M.1 l2 10 ≤ l4 then
      some M
    else
      (ag M 51 7 l4).bind fun v27 =>
      if l3 + v27 ≤ M.1 48 1 then
        lt (l4 + 1 : Int32) fun v29 =>
        f_X5_standLast_L128 n1 fu l2 l3 v29 M
      else
        (ag M 51 7 l4).bind fun v30 =>
        lt (sI M 48 1 (l3 + v30)) fun M31 =>
        (pg M31 52 6 (M31.1 48 6) l4).bind fun M32 =>
        (cp M32 52 6 49 6 (0 : Int32) (0 : Int32) (6 : Int32)).bind fun M33 =>
        lt (l4 + 1 : Int32) fun v34 =>
        f_X5_standLast_L128 n1 fu l2 l3 v34 M33
def f_X5_standLast (n1 : Nat) (M : Mem) : Option (Mem) :=
  (rT M n1 0).bind fun t1 =>
  (f_J7_fill_53178 51 7 (0 : Int32) M).bind fun M3 =>
  (f_X5_standLast_L18 n1 FU t1 (0 : Int32) (0 : Int32) M3).bind fun t24 =>
  (f_X5_standLast_L128 n1 FU t1 t24.1 (0 : Int32) t24.2).bind fun t35 =>
  some t35
set_option maxHeartbeats 1000000 in
set_option maxRecDepth 20000 in
theorem t_X5_standLast_L18 {g : GG} {d : Nat} {P : PT} {res : Option RS} (hd : 2 ≤ d) {n1 : Nat} (hn1 : isN n1) (hP : IsM g iX5_standLast d res P) : ∀ (fu : Nat) (l2 : Nat) (hl2 : isT l2) (l3 : Int32) (l4 : Int32) (M : Mem) (t : Int32 × Mem), f_X5_standLast_L18 n1 fu l2 l3 l4 M = some t → P 125 [some (.ref 48), none, some (.ref l2), some (.int t.1), none, none] [] LAY t.2 → P 18 [some (.ref 48), some (.ref n1), some (.ref l2), some (.int l3), some (.int l4), none] [] LAY M := by
  have hd1 : 1 ≤ d := by omega
  intro fu
  induction fu with
  | zero => intro l2 hl2 l3 l4 M t hf; simp [f_X5_standLast_L18] at hf
  | succ fu ih =>
    intro l2 hl2 l3 l4 M t hf hx
    rw [f_X5_standLast_L18] at hf
    refine x_iload hP dX5_standLast_18 rfl ?_
    refine x_aload_n hP dX5_standLast_20 rfl ?_
    refine x_getI hP fX5_98 (layT hl2) dX5_standLast_21 ?_
    refine x_icmp_ge hP dX5_standLast_24 (tgt := 125) (by decide) (fun c4 => ?_) (fun c4 => ?_)
    · replace hf := p_t c4 hf
      refine x_drop hP [some (.ref 48), none, some (.ref l2), some (.int l3), none, none] (And.intro rfl (And.intro rfl (And.intro rfl trivial))) ?_
      cases hf
      exact hx
    · replace hf := p_f c4 hf
      refine x_aload_n hP dX5_standLast_27 rfl ?_
      refine x_getA hP fX5_101 (layT hl2) (r := l2 + 3) rfl dX5_standLast_28 ?_
      refine x_iload hP dX5_standLast_31 rfl ?_
      obtain ⟨v5, hiv5, hv5, hf⟩ := b_ag hf
      refine y_ald hP (layT_3 hl2) hiv5 hv5 dX5_standLast_33 ?_
      refine x_aload_n hP dX5_standLast_34 rfl ?_
      refine x_getA hP fX5_19 lay48 (r := 50) rfl dX5_standLast_35 ?_
      refine x_aload_n hP dX5_standLast_38 rfl ?_
      refine x_getA hP fX5_59 (layT hl2) (r := l2 + 1) rfl dX5_standLast_39 ?_
      refine x_iload hP dX5_standLast_42 rfl ?_
      obtain ⟨v6, hiv6, hv6, hf⟩ := b_ag hf
      refine y_ald hP (layT_1 hl2) hiv6 hv6 dX5_standLast_44 ?_
      obtain ⟨v7, hiv7, hv7, hf⟩ := b_ag hf
      refine y_ald hP lay50 hiv7 hv7 dX5_standLast_45 ?_
      refine x_isub hP dX5_standLast_46 ?_
      refine x_aload_n hP dX5_standLast_47 rfl ?_
      refine x_getA hP fX5_19 lay48 (r := 50) rfl dX5_standLast_48 ?_
      refine x_aload_n hP dX5_standLast_51 rfl ?_
      refine x_getA hP fX5_66 (layT hl2) (r := l2 + 2) rfl dX5_standLast_52 ?_
      refine x_iload hP dX5_standLast_55 rfl ?_
      obtain ⟨v8, hiv8, hv8, hf⟩ := b_ag hf
      refine y_ald hP (layT_2 hl2) hiv8 hv8 dX5_standLast_57 ?_
      obtain ⟨v9, hiv9, hv9, hf⟩ := b_ag hf
      refine y_ald hP lay50 hiv9 hv9 dX5_standLast_58 ?_
      refine x_isub hP dX5_standLast_59 ?_
      obtain ⟨v10, hv10, hf⟩ := b_lt hf
      refine y_nmI hv10 ?_
      refine x_istore hP (ls2 := [some (.ref 48), some (.ref n1), some (.ref l2), some (.int l3), some (.int l4), some (.int v10)]) dX5_standLast_60 rfl rfl ?_
      refine x_iload hP dX5_standLast_62 rfl ?_
      refine x_if_gt hP dX5_standLast_64 (tgt := 73) (by decide) (fun c11 => ?_) (fun c11 => ?_)
      · replace hf := p_t c11 hf
        refine x_iload hP dX5_standLast_73 rfl ?_
        refine x_aload_n hP dX5_standLast_75 rfl ?_
        refine x_getA hP fX5_46 (layN hn1) (r := n1 + 2) rfl dX5_standLast_76 ?_
        refine x_aload_n hP dX5_standLast_79 rfl ?_
        refine x_getI hP fX5_32 lay48 dX5_standLast_80 ?_
        obtain ⟨v12, hiv12, hv12, hf⟩ := b_ag hf
        refine y_ald hP (layN_2 hn1) hiv12 hv12 dX5_standLast_83 ?_
        refine x_icmp_gt hP dX5_standLast_84 (tgt := 119) (by decide) (fun c13 => ?_) (fun c13 => ?_)
        · replace hf := p_t c13 hf
          obtain ⟨v14, hv14, hf⟩ := b_lt hf
          refine x_iinc hP (v := v14) (ls2 := [some (.ref 48), some (.ref n1), some (.ref l2), some (.int l3), some (.int v14), some (.int v10)]) dX5_standLast_119 rfl (by rw [hv14]; rfl) rfl rfl ?_
          refine x_goto hP dX5_standLast_122 (tgt := 18) (by decide) ?_
          refine x_drop hP [some (.ref 48), some (.ref n1), some (.ref l2), some (.int l3), some (.int v14), none] (And.intro rfl (And.intro rfl (And.intro rfl (And.intro rfl (And.intro rfl trivial))))) ?_
          exact ih _ hl2 _ _ _ _ hf hx
        · replace hf := p_f c13 hf
          refine x_aload_n hP dX5_standLast_87 rfl ?_
          refine x_getA hP fX5_22 lay48 (r := 51) rfl dX5_standLast_88 ?_
          refine x_aload_n hP dX5_standLast_91 rfl ?_
          refine x_getA hP fX5_59 (layT hl2) (r := l2 + 1) rfl dX5_standLast_92 ?_
          refine x_iload hP dX5_standLast_95 rfl ?_
          obtain ⟨v15, hiv15, hv15, hf⟩ := b_ag hf
          refine y_ald hP (layT_1 hl2) hiv15 hv15 dX5_standLast_97 ?_
          refine x_dup2 hP dX5_standLast_98 rfl rfl ?_
          obtain ⟨v16, hiv16, hv16, hf⟩ := b_ag hf
          refine y_ald hP lay51 hiv16 hv16 dX5_standLast_99 ?_
          refine x_iconst hP dX5_standLast_100 (v := 1) rfl ?_
          refine x_iadd hP dX5_standLast_101 ?_
          obtain ⟨M17, hiM17, hM17, hf⟩ := b_pg hf
          refine y_ast hP lay51 hiM17 hM17 dX5_standLast_102 ?_
          refine x_aload_n hP dX5_standLast_103 rfl ?_
          refine x_getA hP fX5_22 lay48 (r := 51) rfl dX5_standLast_104 ?_
          refine x_aload_n hP dX5_standLast_107 rfl ?_
          refine x_getA hP fX5_66 (layT hl2) (r := l2 + 2) rfl dX5_standLast_108 ?_
          refine x_iload hP dX5_standLast_111 rfl ?_
          obtain ⟨v18, hiv18, hv18, hf⟩ := b_ag hf
          refine y_ald hP (layT_2 hl2) hiv18 hv18 dX5_standLast_113 ?_
          refine x_dup2 hP dX5_standLast_114 rfl rfl ?_
          obtain ⟨v19, hiv19, hv19, hf⟩ := b_ag hf
          refine y_ald hP lay51 hiv19 hv19 dX5_standLast_115 ?_
          refine x_iconst hP dX5_standLast_116 (v := 1) rfl ?_
          refine x_iadd hP dX5_standLast_117 ?_
          obtain ⟨M20, hiM20, hM20, hf⟩ := b_pg hf
          refine y_ast hP lay51 hiM20 hM20 dX5_standLast_118 ?_
          obtain ⟨v21, hv21, hf⟩ := b_lt hf
          refine x_iinc hP (v := v21) (ls2 := [some (.ref 48), some (.ref n1), some (.ref l2), some (.int l3), some (.int v21), some (.int v10)]) dX5_standLast_119 rfl (by rw [hv21]; rfl) rfl rfl ?_
          refine x_goto hP dX5_standLast_122 (tgt := 18) (by decide) ?_
          refine x_drop hP [some (.ref 48), some (.ref n1), some (.ref l2), some (.int l3), some (.int v21), none] (And.intro rfl (And.intro rfl (And.intro rfl (And.intro rfl (And.intro rfl trivial))))) ?_
          exact ih _ hl2 _ _ _ _ hf hx
      · replace hf := p_f c11 hf
        obtain ⟨v22, hv22, hf⟩ := b_lt hf
        refine x_iinc hP (v := v22) (ls2 := [some (.ref 48), some (.ref n1), some (.ref l2), some (.int v22), some (.int l4), some (.int v10)]) dX5_standLast_67 rfl (by rw [hv22]; rfl) rfl rfl ?_
        refine x_goto hP dX5_standLast_70 (tgt := 119) (by decide) ?_
        obtain ⟨v23, hv23, hf⟩ := b_lt hf
        refine x_iinc hP (v := v23) (ls2 := [some (.ref 48), some (.ref n1), some (.ref l2), some (.int v22), some (.int v23), some (.int v10)]) dX5_standLast_119 rfl (by rw [hv23]; rfl) rfl rfl ?_
        refine x_goto hP dX5_standLast_122 (tgt := 18) (by decide) ?_
        refine x_drop hP [some (.ref 48), some (.ref n1), some (.ref l2), some (.int v22), some (.int v23), none] (And.intro rfl (And.intro rfl (And.intro rfl (And.intro rfl (And.intro rfl trivial))))) ?_
        exact ih _ hl2 _ _ _ _ hf hx
set_option maxHeartbeats 1000000 in
set_option maxRecDepth 20000 in
theorem t_X5_standLast_L128 {g : GG} {d : Nat} {P : PT} {res : Option RS} (hd : 2 ≤ d) {n1 : Nat} (hn1 : isN n1) (hP : IsM g iX5_standLast d res P) : ∀ (fu : Nat) (l2 : Nat) (hl2 : isT l2) (l3 : Int32) (l4 : Int32) (M : Mem) (t : Mem), f_X5_standLast_L128 n1 fu l2 l3 l4 M = some t → P 198 [none, none, none, none, none, none] [] LAY t → P 128 [some (.ref 48), none, some (.ref l2), some (.int l3), some (.int l4), none] [] LAY M := by
  have hd1 : 1 ≤ d := by omega
  intro fu
  induction fu with
  | zero => intro l2 hl2 l3 l4 M t hf; simp [f_X5_standLast_L128] at hf
  | succ fu ih =>
    intro l2 hl2 l3 l4 M t hf hx
    rw [f_X5_standLast_L128] at hf
    refine x_iload hP dX5_standLast_128 rfl ?_
    refine x_aload_n hP dX5_standLast_130 rfl ?_
    refine x_getI hP fX5_92 (layT hl2) dX5_standLast_131 ?_
    refine x_icmp_ge hP dX5_standLast_134 (tgt := 198) (by decide) (fun c26 => ?_) (fun c26 => ?_)
    · replace hf := p_t c26 hf
      refine x_drop hP [none, none, none, none, none, none] trivial ?_
      cases hf
      exact hx
    · replace hf := p_f c26 hf
      refine x_iload_n hP dX5_standLast_137 rfl ?_
      refine x_aload_n hP dX5_standLast_138 rfl ?_
      refine x_getA hP fX5_22 lay48 (r := 51) rfl dX5_standLast_139 ?_
      refine x_iload hP dX5_standLast_142 rfl ?_
      obtain ⟨v27, hiv27, hv27, hf⟩ := b_ag hf
      refine y_ald hP lay51 hiv27 hv27 dX5_standLast_144 ?_
      refine x_iadd hP dX5_standLast_145 ?_
      refine x_aload_n hP dX5_standLast_146 rfl ?_
      refine x_getI hP fX5_28 lay48 dX5_standLast_147 ?_
      refine x_icmp_le hP dX5_standLast_150 (tgt := 192) (by decide) (fun c28 => ?_) (fun c28 => ?_)
      · replace hf := p_t c28 hf
        obtain ⟨v29, hv29, hf⟩ := b_lt hf
        refine x_iinc hP (v := v29) (ls2 := [some (.ref 48), none, some (.ref l2), some (.int l3), some (.int v29), none]) dX5_standLast_192 rfl (by rw [hv29]; rfl) rfl rfl ?_
        refine x_goto hP dX5_standLast_195 (tgt := 128) (by decide) ?_
        refine x_drop hP [some (.ref 48), none, some (.ref l2), some (.int l3), some (.int v29), none] (And.intro rfl (And.intro rfl (And.intro rfl (And.intro rfl trivial)))) ?_
        exact ih _ hl2 _ _ _ _ hf hx
      · replace hf := p_f c28 hf
        refine x_aload_n hP dX5_standLast_153 rfl ?_
        refine x_iload_n hP dX5_standLast_154 rfl ?_
        refine x_aload_n hP dX5_standLast_155 rfl ?_
        refine x_getA hP fX5_22 lay48 (r := 51) rfl dX5_standLast_156 ?_
        refine x_iload hP dX5_standLast_159 rfl ?_
        obtain ⟨v30, hiv30, hv30, hf⟩ := b_ag hf
        refine y_ald hP lay51 hiv30 hv30 dX5_standLast_161 ?_
        refine x_iadd hP dX5_standLast_162 ?_
        obtain ⟨M31, hM31, hf⟩ := b_lt hf
        refine y_putI hP fX5_28 lay48 hM31 dX5_standLast_163 ?_
        refine x_aload_n hP dX5_standLast_166 rfl ?_
        refine x_getA hP fX5_25 lay48 (r := 52) rfl dX5_standLast_167 ?_
        refine x_aload_n hP dX5_standLast_170 rfl ?_
        refine x_getI hP fX5_32 lay48 dX5_standLast_171 ?_
        refine x_iload hP dX5_standLast_174 rfl ?_
        obtain ⟨M32, hiM32, hM32, hf⟩ := b_pg hf
        refine y_ast hP lay52 hiM32 hM32 dX5_standLast_176 ?_
        refine x_aload_n hP dX5_standLast_177 rfl ?_
        refine x_getA hP fX5_25 lay48 (r := 52) rfl dX5_standLast_178 ?_
        refine x_iconst hP dX5_standLast_181 (v := 0) rfl ?_
        refine x_aload_n hP dX5_standLast_182 rfl ?_
        refine x_getA hP fX5_9 lay48 (r := 49) rfl dX5_standLast_183 ?_
        refine x_iconst hP dX5_standLast_186 (v := 0) rfl ?_
        refine x_bipush hP dX5_standLast_187 (v := 6) rfl ?_
        obtain ⟨M33, hiM33, hM33, hf⟩ := b_cp hf
        refine y_cpy hP lX5_104 lay52 lay49 hiM33 hM33 rfl hd1 dX5_standLast_189 ?_
        obtain ⟨v34, hv34, hf⟩ := b_lt hf
        refine x_iinc hP (v := v34) (ls2 := [some (.ref 48), none, some (.ref l2), some (.int l3), some (.int v34), none]) dX5_standLast_192 rfl (by rw [hv34]; rfl) rfl rfl ?_
        refine x_goto hP dX5_standLast_195 (tgt := 128) (by decide) ?_
        refine x_drop hP [some (.ref 48), none, some (.ref l2), some (.int l3), some (.int v34), none] (And.intro rfl (And.intro rfl (And.intro rfl (And.intro rfl trivial)))) ?_
        exact ih _ hl2 _ _ _ _ hf hx
set_option maxHeartbeats 1000000 in
set_option maxRecDepth 20000 in
theorem t_X5_standLast {g : GG} {d : Nat} (hd : 2 ≤ d) {n1 : Nat} (hn1 : isN n1) {M : Mem} {M' : Mem} (hf : f_X5_standLast n1 M = some M') : ExM g d iX5_standLast [.ref 48, .ref n1] LAY M (none, LAY, M') := by
  have hd1 : 1 ≤ d := by omega
  refine ExM.main pnX5 rfl (ls := [some (.ref 48), some (.ref n1), none, none, none, none]) rfl ?_
  intro P hP
  rw [f_X5_standLast] at hf
  refine x_aload_n hP dX5_standLast_0 rfl ?_
  obtain ⟨t1, ht1, hrt1, hf⟩ := b_rT hf
  refine x_getM hP fX5_35 (layN hn1) hrt1 dX5_standLast_1 ?_
  refine x_astore_n hP (ls2 := [some (.ref 48), some (.ref n1), some (.ref t1), none, none, none]) dX5_standLast_4 rfl rfl rfl ?_
  refine x_aload_n hP dX5_standLast_5 rfl ?_
  refine x_getA hP fX5_22 lay48 (r := 51) rfl dX5_standLast_6 ?_
  refine x_iconst hP dX5_standLast_9 (v := 0) rfl ?_
  obtain ⟨M3, hc2, hf⟩ := b_bd hf
  refine y_csv hP oJ7_fill_53178 lX5_49 [.ref 51, .int (0 : Int32)] [] rfl rfl rfl dX5_standLast_10 (t_J7_fill_53178 (d := d - 1) (by omega) lay51 hc2) (by omega) ?_
  refine x_iconst hP dX5_standLast_13 (v := 0) rfl ?_
  refine x_istore_n hP (ls2 := [some (.ref 48), some (.ref n1), some (.ref t1), some (.int (0 : Int32)), none, none]) dX5_standLast_14 rfl rfl rfl ?_
  refine x_iconst hP dX5_standLast_15 (v := 0) rfl ?_
  refine x_istore hP (ls2 := [some (.ref 48), some (.ref n1), some (.ref t1), some (.int (0 : Int32)), some (.int (0 : Int32)), none]) dX5_standLast_16 rfl rfl ?_
  refine x_drop hP [some (.ref 48), some (.ref n1), some (.ref t1), some (.int (0 : Int32)), some (.int (0 : Int32)), none] (And.intro rfl (And.intro rfl (And.intro rfl (And.intro rfl (And.intro rfl trivial))))) ?_
  obtain ⟨t24, hl25, hf⟩ := b_bd hf
  refine t_X5_standLast_L18 hd hn1 hP _ _ ht1 _ _ _ _ hl25 ?_
  refine x_iconst hP dX5_standLast_125 (v := 0) rfl ?_
  refine x_istore hP (ls2 := [some (.ref 48), none, some (.ref t1), some (.int t24.1), some (.int (0 : Int32)), none]) dX5_standLast_126 rfl rfl ?_
  refine x_drop hP [some (.ref 48), none, some (.ref t1), some (.int t24.1), some (.int (0 : Int32)), none] (And.intro rfl (And.intro rfl (And.intro rfl (And.intro rfl trivial)))) ?_
  obtain ⟨t35, hl36, hf⟩ := b_bd hf
  refine t_X5_standLast_L128 hd hn1 hP _ _ ht1 _ _ _ _ hl36 ?_
  cases hf
  exact x_vret hP rfl dX5_standLast_198
def f_X5_litWith_L5 (t1 : Nat) : Nat → Int32 → Int32 → Int32 → Mem → Option (Int32)
  | 0, _, _, _, _ => none
  | fu + 1, l2, l3, l4, M =>
    if M.1 t1 11 ≤ l4 then
      some l3
    else
      (ag M (t1 + 1) 10 l4).bind fun v2 =>
      (ag M 50 7 v2).bind fun v3 =>
      (ag M (t1 + 2) 10 l4).bind fun v4 =>
      (ag M 50 7 v4).bind fun v5 =>
      (ag M (t1 + 3) 10 l4).bind fun v6 =>
      if (v3 + v5) + l2 < v6 then
        lt (l4 + 1 : Int32) fun v8 =>
        f_X5_litWith_L5 t1 fu l2 l3 v8 M
      else
        lt (l3 + 1 : Int32) fun v9 =>
        lt (l4 + 1 : Int32) fun v10 =>
        f_X5_litWith_L5 t1 fu l2 v9 v10 M
def f_X5_litWith (t1 : Nat) (x2 : Int32) (M : Mem) : Option (Int32) :=
  (f_X5_litWith_L5 t1 FU x2 (0 : Int32) (0 : Int32) M).bind fun t11 =>
  some t11
set_option maxHeartbeats 1000000 in
set_option maxRecDepth 20000 in
theorem t_X5_litWith_L5 {g : GG} {d : Nat} {P : PT} {res : Option RS} (hd : 1 ≤ d) {t1 : Nat} (ht1 : isT t1) (hP : IsM g iX5_litWith d res P) : ∀ (fu : Nat) (l2 : Int32) (l3 : Int32) (l4 : Int32) (M : Mem) (t : Int32), f_X5_litWith_L5 t1 fu l2 l3 l4 M = some t → P 60 [none, none, none, some (.int t), none] [] LAY M → P 5 [some (.ref 48), some (.ref t1), some (.int l2), some (.int l3), some (.int l4)] [] LAY M := by
  have hd1 : 1 ≤ d := by omega
  intro fu
  induction fu with
  | zero => intro l2 l3 l4 M t hf; simp [f_X5_litWith_L5] at hf
  | succ fu ih =>
    intro l2 l3 l4 M t hf hx
    rw [f_X5_litWith_L5] at hf
    refine x_iload hP dX5_litWith_5 rfl ?_
    refine x_aload_n hP dX5_litWith_7 rfl ?_
    refine x_getI hP fX5_98 (layT ht1) dX5_litWith_8 ?_
    refine x_icmp_ge hP dX5_litWith_11 (tgt := 60) (by decide) (fun c1 => ?_) (fun c1 => ?_)
    · replace hf := p_t c1 hf
      refine x_drop hP [none, none, none, some (.int l3), none] (And.intro rfl trivial) ?_
      cases hf
      exact hx
    · replace hf := p_f c1 hf
      refine x_aload_n hP dX5_litWith_14 rfl ?_
      refine x_getA hP fX5_19 lay48 (r := 50) rfl dX5_litWith_15 ?_
      refine x_aload_n hP dX5_litWith_18 rfl ?_
      refine x_getA hP fX5_59 (layT ht1) (r := t1 + 1) rfl dX5_litWith_19 ?_
      refine x_iload hP dX5_litWith_22 rfl ?_
      obtain ⟨v2, hiv2, hv2, hf⟩ := b_ag hf
      refine y_ald hP (layT_1 ht1) hiv2 hv2 dX5_litWith_24 ?_
      obtain ⟨v3, hiv3, hv3, hf⟩ := b_ag hf
      refine y_ald hP lay50 hiv3 hv3 dX5_litWith_25 ?_
      refine x_aload_n hP dX5_litWith_26 rfl ?_
      refine x_getA hP fX5_19 lay48 (r := 50) rfl dX5_litWith_27 ?_
      refine x_aload_n hP dX5_litWith_30 rfl ?_
      refine x_getA hP fX5_66 (layT ht1) (r := t1 + 2) rfl dX5_litWith_31 ?_
      refine x_iload hP dX5_litWith_34 rfl ?_
      obtain ⟨v4, hiv4, hv4, hf⟩ := b_ag hf
      refine y_ald hP (layT_2 ht1) hiv4 hv4 dX5_litWith_36 ?_
      obtain ⟨v5, hiv5, hv5, hf⟩ := b_ag hf
      refine y_ald hP lay50 hiv5 hv5 dX5_litWith_37 ?_
      refine x_iadd hP dX5_litWith_38 ?_
      refine x_iload_n hP dX5_litWith_39 rfl ?_
      refine x_iadd hP dX5_litWith_40 ?_
      refine x_aload_n hP dX5_litWith_41 rfl ?_
      refine x_getA hP fX5_101 (layT ht1) (r := t1 + 3) rfl dX5_litWith_42 ?_
      refine x_iload hP dX5_litWith_45 rfl ?_
      obtain ⟨v6, hiv6, hv6, hf⟩ := b_ag hf
      refine y_ald hP (layT_3 ht1) hiv6 hv6 dX5_litWith_47 ?_
      refine x_icmp_lt hP dX5_litWith_48 (tgt := 54) (by decide) (fun c7 => ?_) (fun c7 => ?_)
      · replace hf := p_t c7 hf
        obtain ⟨v8, hv8, hf⟩ := b_lt hf
        refine x_iinc hP (v := v8) (ls2 := [some (.ref 48), some (.ref t1), some (.int l2), some (.int l3), some (.int v8)]) dX5_litWith_54 rfl (by rw [hv8]; rfl) rfl rfl ?_
        refine x_goto hP dX5_litWith_57 (tgt := 5) (by decide) ?_
        refine x_drop hP [some (.ref 48), some (.ref t1), some (.int l2), some (.int l3), some (.int v8)] (And.intro rfl (And.intro rfl (And.intro rfl (And.intro rfl (And.intro rfl trivial))))) ?_
        exact ih _ _ _ _ _ hf hx
      · replace hf := p_f c7 hf
        obtain ⟨v9, hv9, hf⟩ := b_lt hf
        refine x_iinc hP (v := v9) (ls2 := [some (.ref 48), some (.ref t1), some (.int l2), some (.int v9), some (.int l4)]) dX5_litWith_51 rfl (by rw [hv9]; rfl) rfl rfl ?_
        obtain ⟨v10, hv10, hf⟩ := b_lt hf
        refine x_iinc hP (v := v10) (ls2 := [some (.ref 48), some (.ref t1), some (.int l2), some (.int v9), some (.int v10)]) dX5_litWith_54 rfl (by rw [hv10]; rfl) rfl rfl ?_
        refine x_goto hP dX5_litWith_57 (tgt := 5) (by decide) ?_
        refine x_drop hP [some (.ref 48), some (.ref t1), some (.int l2), some (.int v9), some (.int v10)] (And.intro rfl (And.intro rfl (And.intro rfl (And.intro rfl (And.intro rfl trivial))))) ?_
        exact ih _ _ _ _ _ hf hx
set_option maxHeartbeats 1000000 in
set_option maxRecDepth 20000 in
theorem t_X5_litWith {g : GG} {d : Nat} (hd : 1 ≤ d) {t1 : Nat} (ht1 : isT t1) {x2 : Int32} {M : Mem} {r : Int32} (hf : f_X5_litWith t1 x2 M = some r) : ExM g d iX5_litWith [.ref 48, .ref t1, .int x2] LAY M (some (.int r), LAY, M) := by
  have hd1 : 1 ≤ d := by omega
  refine ExM.main pnX5 rfl (ls := [some (.ref 48), some (.ref t1), some (.int x2), none, none]) rfl ?_
  intro P hP
  rw [f_X5_litWith] at hf
  refine x_iconst hP dX5_litWith_0 (v := 0) rfl ?_
  refine x_istore_n hP (ls2 := [some (.ref 48), some (.ref t1), some (.int x2), some (.int (0 : Int32)), none]) dX5_litWith_1 rfl rfl rfl ?_
  refine x_iconst hP dX5_litWith_2 (v := 0) rfl ?_
  refine x_istore hP (ls2 := [some (.ref 48), some (.ref t1), some (.int x2), some (.int (0 : Int32)), some (.int (0 : Int32))]) dX5_litWith_3 rfl rfl ?_
  refine x_drop hP [some (.ref 48), some (.ref t1), some (.int x2), some (.int (0 : Int32)), some (.int (0 : Int32))] (And.intro rfl (And.intro rfl (And.intro rfl (And.intro rfl (And.intro rfl trivial))))) ?_
  obtain ⟨t11, hl12, hf⟩ := b_bd hf
  refine t_X5_litWith_L5 hd ht1 hP _ _ _ _ _ _ hl12 ?_
  refine x_iload_n hP dX5_litWith_60 rfl ?_
  cases hf
  exact x_iret hP rfl dX5_litWith_61
def f_X5_lowestFor_L4 (n1 : Nat) (k : Unit → Option (Int32)) : Nat → Int32 → Int32 → Mem → Option (Int32)
  | 0, _, _, _ => none
  | fu + 1, l2, l3, M =>
    if l3 < 0 then
      k ()
    else
      (ag M (n1 + 2) 6 l3).bind fun v3 =>
      (ag M (n1 + 2) 6 l2).bind fun v4 =>
      if v3 = v4 then
        (ag M 52 6 l3).bind fun v6 =>
        some v6
      else
        lt (l3 + (-1) : Int32) fun v7 =>
        f_X5_lowestFor_L4 n1 k fu l2 v7 M
def f_X5_lowestFor (n1 : Nat) (x2 : Int32) (M : Mem) : Option (Int32) :=
  lt (x2 - (1 : Int32) : Int32) fun v1 =>
  f_X5_lowestFor_L4 n1 (fun t8 =>
      some (0 : Int32)
    ) FU x2 v1 M
set_option maxHeartbeats 1000000 in
set_option maxRecDepth 20000 in
theorem t_X5_lowestFor_L4 {g : GG} {d : Nat} {P : PT} {M : Mem} {r : Int32} (hd : 1 ≤ d) {n1 : Nat} (hn1 : isN n1) {l2 : Int32} (hP : IsM g iX5_lowestFor d (some (some (.int r), LAY, M)) P) {k : Unit → Option (Int32)} (hk : ∀ t : Unit, k t = some r → P 36 [none, none, none, none] [] LAY M) : ∀ (fu : Nat) (l3 : Int32), f_X5_lowestFor_L4 n1 k fu l2 l3 M = some r → P 4 [some (.ref 48), some (.ref n1), some (.int l2), some (.int l3)] [] LAY M := by
  have hd1 : 1 ≤ d := by omega
  intro fu
  induction fu with
  | zero => intro l3 hf; simp [f_X5_lowestFor_L4] at hf
  | succ fu ih =>
    intro l3 hf
    rw [f_X5_lowestFor_L4] at hf
    refine x_iload_n hP dX5_lowestFor_4 rfl ?_
    refine x_if_lt hP dX5_lowestFor_5 (tgt := 36) (by decide) (fun c2 => ?_) (fun c2 => ?_)
    · replace hf := p_t c2 hf
      refine x_drop hP [none, none, none, none] trivial ?_
      exact hk _ hf
    · replace hf := p_f c2 hf
      refine x_aload_n hP dX5_lowestFor_8 rfl ?_
      refine x_getA hP fX5_46 (layN hn1) (r := n1 + 2) rfl dX5_lowestFor_9 ?_
      refine x_iload_n hP dX5_lowestFor_12 rfl ?_
      obtain ⟨v3, hiv3, hv3, hf⟩ := b_ag hf
      refine y_ald hP (layN_2 hn1) hiv3 hv3 dX5_lowestFor_13 ?_
      refine x_aload_n hP dX5_lowestFor_14 rfl ?_
      refine x_getA hP fX5_46 (layN hn1) (r := n1 + 2) rfl dX5_lowestFor_15 ?_
      refine x_iload_n hP dX5_lowestFor_18 rfl ?_
      obtain ⟨v4, hiv4, hv4, hf⟩ := b_ag hf
      refine y_ald hP (layN_2 hn1) hiv4 hv4 dX5_lowestFor_19 ?_
      refine x_icmp_ne hP dX5_lowestFor_20 (tgt := 30) (by decide) (fun c5 => ?_) (fun c5 => ?_)
      · replace hf := p_f c5 hf
        obtain ⟨v7, hv7, hf⟩ := b_lt hf
        refine x_iinc hP (v := v7) (ls2 := [some (.ref 48), some (.ref n1), some (.int l2), some (.int v7)]) dX5_lowestFor_30 rfl (by rw [hv7]; rfl) rfl rfl ?_
        refine x_goto hP dX5_lowestFor_33 (tgt := 4) (by decide) ?_
        refine x_drop hP [some (.ref 48), some (.ref n1), some (.int l2), some (.int v7)] (And.intro rfl (And.intro rfl (And.intro rfl (And.intro rfl trivial)))) ?_
        exact ih _ hf
      · replace hf := p_t c5 hf
        refine x_aload_n hP dX5_lowestFor_23 rfl ?_
        refine x_getA hP fX5_25 lay48 (r := 52) rfl dX5_lowestFor_24 ?_
        refine x_iload_n hP dX5_lowestFor_27 rfl ?_
        obtain ⟨v6, hiv6, hv6, hf⟩ := b_ag hf
        refine y_ald hP lay52 hiv6 hv6 dX5_lowestFor_28 ?_
        cases hf
        exact x_iret hP rfl dX5_lowestFor_29
set_option maxHeartbeats 1000000 in
set_option maxRecDepth 20000 in
theorem t_X5_lowestFor {g : GG} {d : Nat} (hd : 1 ≤ d) {n1 : Nat} (hn1 : isN n1) {x2 : Int32} {M : Mem} {r : Int32} (hf : f_X5_lowestFor n1 x2 M = some r) : ExM g d iX5_lowestFor [.ref 48, .ref n1, .int x2] LAY M (some (.int r), LAY, M) := by
  have hd1 : 1 ≤ d := by omega
  refine ExM.main pnX5 rfl (ls := [some (.ref 48), some (.ref n1), some (.int x2), none]) rfl ?_
  intro P hP
  rw [f_X5_lowestFor] at hf
  refine x_iload_n hP dX5_lowestFor_0 rfl ?_
  refine x_iconst hP dX5_lowestFor_1 (v := 1) rfl ?_
  refine x_isub hP dX5_lowestFor_2 ?_
  obtain ⟨v1, hv1, hf⟩ := b_lt hf
  refine y_nmI hv1 ?_
  refine x_istore_n hP (ls2 := [some (.ref 48), some (.ref n1), some (.int x2), some (.int v1)]) dX5_lowestFor_3 rfl rfl rfl ?_
  refine x_drop hP [some (.ref 48), some (.ref n1), some (.int x2), some (.int v1)] (And.intro rfl (And.intro rfl (And.intro rfl (And.intro rfl trivial)))) ?_
  refine t_X5_lowestFor_L4 hd hn1 hP (fun t8 hf => ?_) _ _ hf
  refine x_iconst hP dX5_lowestFor_36 (v := 0) rfl ?_
  cases hf
  exact x_iret hP rfl dX5_lowestFor_37
def f_X5_stand_L61 (rs : Nat → Int32 → Int32 → Mem → Option (Mem)) (n1 : Nat) : Nat → Int32 → Int32 → Int32 → Int32 → Int32 → Int32 → Mem → Option (Mem)
  | 0, _, _, _, _, _, _, _ => none
  | fu + 1, l2, l3, l4, l5, l6, l7, M =>
    if l6 < l7 then
      some M
    else
      if l4 ≤ M.1 48 1 then
        some M
      else
        (pg M 52 6 l2 l7).bind fun M13 =>
        (ag M13 50 7 l7).bind fun v14 =>
        (pg M13 50 7 l7 (v14 + l5)).bind fun M15 =>
        (rs n1 (l2 + (1 : Int32)) (l3 - l5) M15).bind fun M17 =>
        (ag M17 50 7 l7).bind fun v18 =>
        (pg M17 50 7 l7 (v18 - l5)).bind fun M19 =>
        lt (l7 + 1 : Int32) fun v20 =>
        f_X5_stand_L61 rs n1 fu l2 l3 l4 l5 l6 v20 M19
def g_X5_stand (rs : Nat → Int32 → Int32 → Mem → Option (Mem)) (n1 : Nat) (x2 : Int32) (x3 : Int32) (M : Mem) : Option (Mem) :=
  if x2 < M.1 48 6 then
    (rT M n1 0).bind fun t2 =>
    (f_X5_litWith t2 x3 M).bind fun v4 =>
    (ag M (n1 + 2) 6 x2).bind fun v5 =>
    (
      if v5 = 0 then
        some (0 : Int32)
      else
        (rT M n1 0).bind fun t8 =>
        some ((M.1 t8 10) - (1 : Int32))
    ).bind fun t6 =>
    (f_X5_lowestFor n1 x2 M).bind fun v10 =>
    (f_X5_stand_L61 rs n1 FU x2 x3 v4 v5 t6 v10 M).bind fun t21 =>
    some t21
  else
    (f_X5_standLast n1 M).bind fun M24 =>
    some M24
set_option maxHeartbeats 1000000 in
set_option maxRecDepth 20000 in
theorem t_X5_stand_L61 {g : GG} {d : Nat} {P : PT} {res : Option RS} {rs : Nat → Int32 → Int32 → Mem → Option (Mem)} (hd : 6 ≤ d) (hrec_X5_stand : ∀ {n1 : Nat} (hn1 : isN n1) {x2 : Int32} {x3 : Int32} {M : Mem} {M' : Mem}, rs n1 x2 x3 M = some M' → ExM g (d - 1) iX5_stand [.ref 48, .ref n1, .int x2, .int x3] LAY M (none, LAY, M')) {n1 : Nat} (hn1 : isN n1) (hP : IsM g iX5_stand d res P) : ∀ (fu : Nat) (l2 : Int32) (l3 : Int32) (l4 : Int32) (l5 : Int32) (l6 : Int32) (l7 : Int32) (M : Mem) (t : Mem), f_X5_stand_L61 rs n1 fu l2 l3 l4 l5 l6 l7 M = some t → P 127 [none, none, none, none, none, none, none, none] [] LAY t → P 61 [some (.ref 48), some (.ref n1), some (.int l2), some (.int l3), some (.int l4), some (.int l5), some (.int l6), some (.int l7)] [] LAY M := by
  have hd1 : 1 ≤ d := by omega
  intro fu
  induction fu with
  | zero => intro l2 l3 l4 l5 l6 l7 M t hf; simp [f_X5_stand_L61] at hf
  | succ fu ih =>
    intro l2 l3 l4 l5 l6 l7 M t hf hx
    rw [f_X5_stand_L61] at hf
    refine x_iload hP dX5_stand_61 rfl ?_
    refine x_iload hP dX5_stand_63 rfl ?_
    refine x_icmp_gt hP dX5_stand_65 (tgt := 127) (by decide) (fun c11 => ?_) (fun c11 => ?_)
    · replace hf := p_t c11 hf
      refine x_drop hP [none, none, none, none, none, none, none, none] trivial ?_
      cases hf
      exact hx
    · replace hf := p_f c11 hf
      refine x_iload hP dX5_stand_68 rfl ?_
      refine x_aload_n hP dX5_stand_70 rfl ?_
      refine x_getI hP fX5_28 lay48 dX5_stand_71 ?_
      refine x_icmp_le hP dX5_stand_74 (tgt := 127) (by decide) (fun c12 => ?_) (fun c12 => ?_)
      · replace hf := p_t c12 hf
        refine x_drop hP [none, none, none, none, none, none, none, none] trivial ?_
        cases hf
        exact hx
      · replace hf := p_f c12 hf
        refine x_aload_n hP dX5_stand_77 rfl ?_
        refine x_getA hP fX5_25 lay48 (r := 52) rfl dX5_stand_78 ?_
        refine x_iload_n hP dX5_stand_81 rfl ?_
        refine x_iload hP dX5_stand_82 rfl ?_
        obtain ⟨M13, hiM13, hM13, hf⟩ := b_pg hf
        refine y_ast hP lay52 hiM13 hM13 dX5_stand_84 ?_
        refine x_aload_n hP dX5_stand_85 rfl ?_
        refine x_getA hP fX5_19 lay48 (r := 50) rfl dX5_stand_86 ?_
        refine x_iload hP dX5_stand_89 rfl ?_
        refine x_dup2 hP dX5_stand_91 rfl rfl ?_
        obtain ⟨v14, hiv14, hv14, hf⟩ := b_ag hf
        refine y_ald hP lay50 hiv14 hv14 dX5_stand_92 ?_
        refine x_iload hP dX5_stand_93 rfl ?_
        refine x_iadd hP dX5_stand_95 ?_
        obtain ⟨M15, hiM15, hM15, hf⟩ := b_pg hf
        refine y_ast hP lay50 hiM15 hM15 dX5_stand_96 ?_
        refine x_aload_n hP dX5_stand_97 rfl ?_
        refine x_aload_n hP dX5_stand_98 rfl ?_
        refine x_iload_n hP dX5_stand_99 rfl ?_
        refine x_iconst hP dX5_stand_100 (v := 1) rfl ?_
        refine x_iadd hP dX5_stand_101 ?_
        refine x_iload_n hP dX5_stand_102 rfl ?_
        refine x_iload hP dX5_stand_103 rfl ?_
        refine x_isub hP dX5_stand_105 ?_
        obtain ⟨M17, hc16, hf⟩ := b_bd hf
        refine y_cvv hP oX5_stand lX5_55 [.ref n1, .int (l2 + (1 : Int32)), .int (l3 - l5)] [] rfl rfl rfl lay48 dX5_stand_106 (hrec_X5_stand hn1 hc16) (by omega) ?_
        refine x_aload_n hP dX5_stand_109 rfl ?_
        refine x_getA hP fX5_19 lay48 (r := 50) rfl dX5_stand_110 ?_
        refine x_iload hP dX5_stand_113 rfl ?_
        refine x_dup2 hP dX5_stand_115 rfl rfl ?_
        obtain ⟨v18, hiv18, hv18, hf⟩ := b_ag hf
        refine y_ald hP lay50 hiv18 hv18 dX5_stand_116 ?_
        refine x_iload hP dX5_stand_117 rfl ?_
        refine x_isub hP dX5_stand_119 ?_
        obtain ⟨M19, hiM19, hM19, hf⟩ := b_pg hf
        refine y_ast hP lay50 hiM19 hM19 dX5_stand_120 ?_
        obtain ⟨v20, hv20, hf⟩ := b_lt hf
        refine x_iinc hP (v := v20) (ls2 := [some (.ref 48), some (.ref n1), some (.int l2), some (.int l3), some (.int l4), some (.int l5), some (.int l6), some (.int v20)]) dX5_stand_121 rfl (by rw [hv20]; rfl) rfl rfl ?_
        refine x_goto hP dX5_stand_124 (tgt := 61) (by decide) ?_
        refine x_drop hP [some (.ref 48), some (.ref n1), some (.int l2), some (.int l3), some (.int l4), some (.int l5), some (.int l6), some (.int v20)] (And.intro rfl (And.intro rfl (And.intro rfl (And.intro rfl (And.intro rfl (And.intro rfl (And.intro rfl (And.intro rfl trivial)))))))) ?_
        exact ih _ _ _ _ _ _ _ _ hf hx
set_option maxHeartbeats 1000000 in
set_option maxRecDepth 20000 in
theorem tg_X5_stand {g : GG} {d : Nat} {rs : Nat → Int32 → Int32 → Mem → Option (Mem)} (hd : 6 ≤ d) (hrec_X5_stand : ∀ {n1 : Nat} (hn1 : isN n1) {x2 : Int32} {x3 : Int32} {M : Mem} {M' : Mem}, rs n1 x2 x3 M = some M' → ExM g (d - 1) iX5_stand [.ref 48, .ref n1, .int x2, .int x3] LAY M (none, LAY, M')) {n1 : Nat} (hn1 : isN n1) {x2 : Int32} {x3 : Int32} {M : Mem} {M' : Mem} (hf : g_X5_stand rs n1 x2 x3 M = some M') : ExM g d iX5_stand [.ref 48, .ref n1, .int x2, .int x3] LAY M (none, LAY, M') := by
  have hd1 : 1 ≤ d := by omega
  refine ExM.main pnX5 rfl (ls := [some (.ref 48), some (.ref n1), some (.int x2), some (.int x3), none, none, none, none]) rfl ?_
  intro P hP
  rw [g_X5_stand] at hf
  refine x_iload_n hP dX5_stand_0 rfl ?_
  refine x_aload_n hP dX5_stand_1 rfl ?_
  refine x_getI hP fX5_32 lay48 dX5_stand_2 ?_
  refine x_icmp_lt hP dX5_stand_5 (tgt := 14) (by decide) (fun c1 => ?_) (fun c1 => ?_)
  · replace hf := p_t c1 hf
    refine x_aload_n hP dX5_stand_14 rfl ?_
    refine x_aload_n hP dX5_stand_15 rfl ?_
    obtain ⟨t2, ht2, hrt2, hf⟩ := b_rT hf
    refine x_getM hP fX5_35 (layN hn1) hrt2 dX5_stand_16 ?_
    refine x_iload_n hP dX5_stand_19 rfl ?_
    obtain ⟨v4, hc3, hf⟩ := b_bd hf
    refine y_cvi hP oX5_litWith lX5_88 [.ref t2, .int x3] [] rfl rfl rfl lay48 dX5_stand_20 (t_X5_litWith (d := d - 1) (by omega) ht2 hc3) (by omega) ?_
    refine x_istore hP (ls2 := [some (.ref 48), some (.ref n1), some (.int x2), some (.int x3), some (.int v4), none, none, none]) dX5_stand_23 rfl rfl ?_
    refine x_aload_n hP dX5_stand_25 rfl ?_
    refine x_getA hP fX5_46 (layN hn1) (r := n1 + 2) rfl dX5_stand_26 ?_
    refine x_iload_n hP dX5_stand_29 rfl ?_
    obtain ⟨v5, hiv5, hv5, hf⟩ := b_ag hf
    refine y_ald hP (layN_2 hn1) hiv5 hv5 dX5_stand_30 ?_
    refine x_istore hP (ls2 := [some (.ref 48), some (.ref n1), some (.int x2), some (.int x3), some (.int v4), some (.int v5), none, none]) dX5_stand_31 rfl rfl ?_
    refine x_iload hP dX5_stand_33 rfl ?_
    obtain ⟨t6, het6, hf⟩ := b_bd hf
    have hj6 : P 51 [some (.ref 48), some (.ref n1), some (.int x2), some (.int x3), some (.int v4), some (.int v5), none, none] [.int t6] LAY M := by
      refine x_istore hP (ls2 := [some (.ref 48), some (.ref n1), some (.int x2), some (.int x3), some (.int v4), some (.int v5), some (.int t6), none]) dX5_stand_51 rfl rfl ?_
      refine x_aload_n hP dX5_stand_53 rfl ?_
      refine x_aload_n hP dX5_stand_54 rfl ?_
      refine x_iload_n hP dX5_stand_55 rfl ?_
      obtain ⟨v10, hc9, hf⟩ := b_bd hf
      refine y_cvi hP oX5_lowestFor lX5_95 [.ref n1, .int x2] [] rfl rfl rfl lay48 dX5_stand_56 (t_X5_lowestFor (d := d - 1) (by omega) hn1 hc9) (by omega) ?_
      refine x_istore hP (ls2 := [some (.ref 48), some (.ref n1), some (.int x2), some (.int x3), some (.int v4), some (.int v5), some (.int t6), some (.int v10)]) dX5_stand_59 rfl rfl ?_
      refine x_drop hP [some (.ref 48), some (.ref n1), some (.int x2), some (.int x3), some (.int v4), some (.int v5), some (.int t6), some (.int v10)] (And.intro rfl (And.intro rfl (And.intro rfl (And.intro rfl (And.intro rfl (And.intro rfl (And.intro rfl (And.intro rfl trivial)))))))) ?_
      obtain ⟨t21, hl22, hf⟩ := b_bd hf
      refine t_X5_stand_L61 hd hrec_X5_stand hn1 hP _ _ _ _ _ _ _ _ _ hl22 ?_
      cases hf
      exact x_vret hP rfl dX5_stand_127
    clear hf
    have hf := het6
    clear het6
    refine x_if_ne hP dX5_stand_35 (tgt := 42) (by decide) (fun c7 => ?_) (fun c7 => ?_)
    · replace hf := p_f c7 hf
      refine x_aload_n hP dX5_stand_42 rfl ?_
      obtain ⟨t8, ht8, hrt8, hf⟩ := b_rT hf
      refine x_getM hP fX5_35 (layN hn1) hrt8 dX5_stand_43 ?_
      refine x_getI hP fX5_92 (layT ht8) dX5_stand_46 ?_
      refine x_iconst hP dX5_stand_49 (v := 1) rfl ?_
      refine x_isub hP dX5_stand_50 ?_
      refine x_drop hP [some (.ref 48), some (.ref n1), some (.int x2), some (.int x3), some (.int v4), some (.int v5), none, none] (And.intro rfl (And.intro rfl (And.intro rfl (And.intro rfl (And.intro rfl (And.intro rfl trivial)))))) ?_
      cases hf
      exact hj6
    · replace hf := p_t c7 hf
      refine x_iconst hP dX5_stand_38 (v := 0) rfl ?_
      refine x_goto hP dX5_stand_39 (tgt := 51) (by decide) ?_
      refine x_drop hP [some (.ref 48), some (.ref n1), some (.int x2), some (.int x3), some (.int v4), some (.int v5), none, none] (And.intro rfl (And.intro rfl (And.intro rfl (And.intro rfl (And.intro rfl (And.intro rfl trivial)))))) ?_
      cases hf
      exact hj6
  · replace hf := p_f c1 hf
    refine x_aload_n hP dX5_stand_8 rfl ?_
    refine x_aload_n hP dX5_stand_9 rfl ?_
    obtain ⟨M24, hc23, hf⟩ := b_bd hf
    refine y_cvv hP oX5_standLast lX5_84 [.ref n1] [] rfl rfl rfl lay48 dX5_stand_10 (t_X5_standLast (d := d - 1) (by omega) hn1 hc23) (by omega) ?_
    cases hf
    exact x_vret hP rfl dX5_stand_13
def n_X5_stand : Nat → Nat → Int32 → Int32 → Mem → Option (Mem)
  | 0 => fun _ _ _ _ => none
  | n + 1 => fun n1 x2 x3 M => g_X5_stand (n_X5_stand n) n1 x2 x3 M
def f_X5_stand (n1 : Nat) (x2 x3 : Int32) (M : Mem) : Option (Mem) := n_X5_stand 40 n1 x2 x3 M
theorem tn_X5_stand {g : GG} : ∀ (n d : Nat), n + 6 ≤ d → ∀ {n1 : Nat} (hn1 : isN n1) {x2 x3 : Int32} {M : Mem} {M' : Mem}, n_X5_stand n n1 x2 x3 M = some M' → ExM g d iX5_stand [.ref 48, .ref n1, .int x2, .int x3] LAY M (none, LAY, M')
  | 0, _, _, _, _, _, _, _, _, hf => by simp [n_X5_stand] at hf
  | n + 1, d, hd, _, hn1, _, _, _, _, hf => tg_X5_stand (by omega) (fun h1 _ _ _ _ h => tn_X5_stand n (d - 1) (by omega) h1 h) hn1 hf
theorem t_X5_stand {g : GG} {d : Nat} (hd : 46 ≤ d) {n1 : Nat} (hn1 : isN n1) {x2 x3 : Int32} {M : Mem} {M' : Mem} (hf : f_X5_stand n1 x2 x3 M = some M') : ExM g d iX5_stand [.ref 48, .ref n1, .int x2, .int x3] LAY M (none, LAY, M') := tn_X5_stand 40 d hd hn1 hf
def f_X5_search_L27 (n1 : Nat) : Nat → Int32 → Int32 → Mem → Option (Int32 × Mem)
  | 0, _, _, _ => none
  | fu + 1, l2, l3, M =>
    (rT M n1 0).bind fun t5 =>
    if M.1 t5 12 ≤ l3 then
      some (l2, M)
    else
      (ag M (n1 + 2) 6 l3).bind fun v7 =>
      lt (l2 + v7 : Int32) fun v8 =>
      (ag M (n1 + 2) 6 l3).bind fun v9 =>
      lt (
        if v9 ≤ 0 then
          M.1 48 6
        else
          l3
       : Int32) fun t10 =>
      lt (sI M 48 6 t10) fun M12 =>
      lt (l3 + 1 : Int32) fun v13 =>
      f_X5_search_L27 n1 fu v8 v13 M12
def f_X5_search (n1 : Nat) (M : Mem) : Option (Mem) :=
  if M.1 48 2 = 0 then
    some M
  else
    lt (sI M 48 2 (0 : Int32)) fun M2 =>
    lt (sI M2 48 1 (0 : Int32)) fun M3 =>
    lt (sI M3 48 6 (-1 : Int32)) fun M4 =>
    (f_X5_search_L27 n1 FU (0 : Int32) (0 : Int32) M4).bind fun t14 =>
    (f_J7_fill_53178 50 7 (0 : Int32) t14.2).bind fun M17 =>
    (f_J7_fill_53178 52 6 (0 : Int32) M17).bind fun M19 =>
    (f_J7_fill_53178 49 6 (0 : Int32) M19).bind fun M21 =>
    if M21.1 48 6 = (-1 : Int32) then
      some M21
    else
      (f_X5_stand n1 (0 : Int32) t14.1 M21).bind fun M24 =>
      some M24
set_option maxHeartbeats 1000000 in
set_option maxRecDepth 20000 in
theorem t_X5_search_L27 {g : GG} {d : Nat} {P : PT} {res : Option RS} (hd : 47 ≤ d) {n1 : Nat} (hn1 : isN n1) (hP : IsM g iX5_search d res P) : ∀ (fu : Nat) (l2 : Int32) (l3 : Int32) (M : Mem) (t : Int32 × Mem), f_X5_search_L27 n1 fu l2 l3 M = some t → P 74 [some (.ref 48), some (.ref n1), some (.int t.1), none] [] LAY t.2 → P 27 [some (.ref 48), some (.ref n1), some (.int l2), some (.int l3)] [] LAY M := by
  have hd1 : 1 ≤ d := by omega
  intro fu
  induction fu with
  | zero => intro l2 l3 M t hf; simp [f_X5_search_L27] at hf
  | succ fu ih =>
    intro l2 l3 M t hf hx
    rw [f_X5_search_L27] at hf
    refine x_iload_n hP dX5_search_27 rfl ?_
    refine x_aload_n hP dX5_search_28 rfl ?_
    obtain ⟨t5, ht5, hrt5, hf⟩ := b_rT hf
    refine x_getM hP fX5_35 (layN hn1) hrt5 dX5_search_29 ?_
    refine x_getI hP fX5_41 (layT ht5) dX5_search_32 ?_
    refine x_icmp_ge hP dX5_search_35 (tgt := 74) (by decide) (fun c6 => ?_) (fun c6 => ?_)
    · replace hf := p_t c6 hf
      refine x_drop hP [some (.ref 48), some (.ref n1), some (.int l2), none] (And.intro rfl (And.intro rfl (And.intro rfl trivial))) ?_
      cases hf
      exact hx
    · replace hf := p_f c6 hf
      refine x_iload_n hP dX5_search_38 rfl ?_
      refine x_aload_n hP dX5_search_39 rfl ?_
      refine x_getA hP fX5_46 (layN hn1) (r := n1 + 2) rfl dX5_search_40 ?_
      refine x_iload_n hP dX5_search_43 rfl ?_
      obtain ⟨v7, hiv7, hv7, hf⟩ := b_ag hf
      refine y_ald hP (layN_2 hn1) hiv7 hv7 dX5_search_44 ?_
      refine x_iadd hP dX5_search_45 ?_
      obtain ⟨v8, hv8, hf⟩ := b_lt hf
      refine y_nmI hv8 ?_
      refine x_istore_n hP (ls2 := [some (.ref 48), some (.ref n1), some (.int v8), some (.int l3)]) dX5_search_46 rfl rfl rfl ?_
      refine x_aload_n hP dX5_search_47 rfl ?_
      refine x_aload_n hP dX5_search_48 rfl ?_
      refine x_getA hP fX5_46 (layN hn1) (r := n1 + 2) rfl dX5_search_49 ?_
      refine x_iload_n hP dX5_search_52 rfl ?_
      obtain ⟨v9, hiv9, hv9, hf⟩ := b_ag hf
      refine y_ald hP (layN_2 hn1) hiv9 hv9 dX5_search_53 ?_
      obtain ⟨t10, het10, hf⟩ := b_lt hf
      have hj10 : P 65 [some (.ref 48), some (.ref n1), some (.int v8), some (.int l3)] [.int t10, .ref 48] LAY M := by
        obtain ⟨M12, hM12, hf⟩ := b_lt hf
        refine y_putI hP fX5_32 lay48 hM12 dX5_search_65 ?_
        obtain ⟨v13, hv13, hf⟩ := b_lt hf
        refine x_iinc hP (v := v13) (ls2 := [some (.ref 48), some (.ref n1), some (.int v8), some (.int v13)]) dX5_search_68 rfl (by rw [hv13]; rfl) rfl rfl ?_
        refine x_goto hP dX5_search_71 (tgt := 27) (by decide) ?_
        refine x_drop hP [some (.ref 48), some (.ref n1), some (.int v8), some (.int v13)] (And.intro rfl (And.intro rfl (And.intro rfl (And.intro rfl trivial)))) ?_
        exact ih _ _ _ _ hf hx
      clear hf
      have hf := het10
      clear het10
      refine x_if_le hP dX5_search_54 (tgt := 61) (by decide) (fun c11 => ?_) (fun c11 => ?_)
      · replace hf := e_t c11 hf
        refine x_aload_n hP dX5_search_61 rfl ?_
        refine x_getI hP fX5_32 lay48 dX5_search_62 ?_
        refine x_drop hP [some (.ref 48), some (.ref n1), some (.int v8), some (.int l3)] (And.intro rfl (And.intro rfl (And.intro rfl (And.intro rfl trivial)))) ?_
        subst hf
        exact hj10
      · replace hf := e_f c11 hf
        refine x_iload_n hP dX5_search_57 rfl ?_
        refine x_goto hP dX5_search_58 (tgt := 65) (by decide) ?_
        refine x_drop hP [some (.ref 48), some (.ref n1), some (.int v8), some (.int l3)] (And.intro rfl (And.intro rfl (And.intro rfl (And.intro rfl trivial)))) ?_
        subst hf
        exact hj10
set_option maxHeartbeats 1000000 in
set_option maxRecDepth 20000 in
theorem t_X5_search {g : GG} {d : Nat} (hd : 47 ≤ d) {n1 : Nat} (hn1 : isN n1) {M : Mem} {M' : Mem} (hf : f_X5_search n1 M = some M') : ExM g d iX5_search [.ref 48, .ref n1] LAY M (none, LAY, M') := by
  have hd1 : 1 ≤ d := by omega
  refine ExM.main pnX5 rfl (ls := [some (.ref 48), some (.ref n1), none, none]) rfl ?_
  intro P hP
  rw [f_X5_search] at hf
  refine x_aload_n hP dX5_search_0 rfl ?_
  refine x_getZ hP fX5_15 lay48 dX5_search_1 ?_
  refine x_if_ne hP dX5_search_4 (tgt := 8) (by decide) (fun c1 => ?_) (fun c1 => ?_)
  · replace hf := p_f c1 hf
    refine x_aload_n hP dX5_search_8 rfl ?_
    refine x_iconst hP dX5_search_9 (v := 0) rfl ?_
    obtain ⟨M2, hM2, hf⟩ := b_lt hf
    refine y_putZ hP fX5_15 (Or.inl rfl) lay48 hM2 dX5_search_10 ?_
    refine x_aload_n hP dX5_search_13 rfl ?_
    refine x_iconst hP dX5_search_14 (v := 0) rfl ?_
    obtain ⟨M3, hM3, hf⟩ := b_lt hf
    refine y_putI hP fX5_28 lay48 hM3 dX5_search_15 ?_
    refine x_aload_n hP dX5_search_18 rfl ?_
    refine x_iconst hP dX5_search_19 (v := (-1)) rfl ?_
    obtain ⟨M4, hM4, hf⟩ := b_lt hf
    refine y_putI hP fX5_32 lay48 hM4 dX5_search_20 ?_
    refine x_iconst hP dX5_search_23 (v := 0) rfl ?_
    refine x_istore_n hP (ls2 := [some (.ref 48), some (.ref n1), some (.int (0 : Int32)), none]) dX5_search_24 rfl rfl rfl ?_
    refine x_iconst hP dX5_search_25 (v := 0) rfl ?_
    refine x_istore_n hP (ls2 := [some (.ref 48), some (.ref n1), some (.int (0 : Int32)), some (.int (0 : Int32))]) dX5_search_26 rfl rfl rfl ?_
    refine x_drop hP [some (.ref 48), some (.ref n1), some (.int (0 : Int32)), some (.int (0 : Int32))] (And.intro rfl (And.intro rfl (And.intro rfl (And.intro rfl trivial)))) ?_
    obtain ⟨t14, hl15, hf⟩ := b_bd hf
    refine t_X5_search_L27 hd hn1 hP _ _ _ _ _ hl15 ?_
    refine x_aload_n hP dX5_search_74 rfl ?_
    refine x_getA hP fX5_19 lay48 (r := 50) rfl dX5_search_75 ?_
    refine x_iconst hP dX5_search_78 (v := 0) rfl ?_
    obtain ⟨M17, hc16, hf⟩ := b_bd hf
    refine y_csv hP oJ7_fill_53178 lX5_49 [.ref 50, .int (0 : Int32)] [] rfl rfl rfl dX5_search_79 (t_J7_fill_53178 (d := d - 1) (by omega) lay50 hc16) (by omega) ?_
    refine x_aload_n hP dX5_search_82 rfl ?_
    refine x_getA hP fX5_25 lay48 (r := 52) rfl dX5_search_83 ?_
    refine x_iconst hP dX5_search_86 (v := 0) rfl ?_
    obtain ⟨M19, hc18, hf⟩ := b_bd hf
    refine y_csv hP oJ7_fill_53178 lX5_49 [.ref 52, .int (0 : Int32)] [] rfl rfl rfl dX5_search_87 (t_J7_fill_53178 (d := d - 1) (by omega) lay52 hc18) (by omega) ?_
    refine x_aload_n hP dX5_search_90 rfl ?_
    refine x_getA hP fX5_9 lay48 (r := 49) rfl dX5_search_91 ?_
    refine x_iconst hP dX5_search_94 (v := 0) rfl ?_
    obtain ⟨M21, hc20, hf⟩ := b_bd hf
    refine y_csv hP oJ7_fill_53178 lX5_49 [.ref 49, .int (0 : Int32)] [] rfl rfl rfl dX5_search_95 (t_J7_fill_53178 (d := d - 1) (by omega) lay49 hc20) (by omega) ?_
    refine x_aload_n hP dX5_search_98 rfl ?_
    refine x_getI hP fX5_32 lay48 dX5_search_99 ?_
    refine x_iconst hP dX5_search_102 (v := (-1)) rfl ?_
    refine x_icmp_eq hP dX5_search_103 (tgt := 113) (by decide) (fun c22 => ?_) (fun c22 => ?_)
    · replace hf := p_t c22 hf
      cases hf
      exact x_vret hP rfl dX5_search_113
    · replace hf := p_f c22 hf
      refine x_aload_n hP dX5_search_106 rfl ?_
      refine x_aload_n hP dX5_search_107 rfl ?_
      refine x_iconst hP dX5_search_108 (v := 0) rfl ?_
      refine x_iload_n hP dX5_search_109 rfl ?_
      obtain ⟨M24, hc23, hf⟩ := b_bd hf
      refine y_cvv hP oX5_stand lX5_55 [.ref n1, .int (0 : Int32), .int t14.1] [] rfl rfl rfl lay48 dX5_search_110 (t_X5_stand (d := d - 1) (by omega) hn1 hc23) (by omega) ?_
      cases hf
      exact x_vret hP rfl dX5_search_113
  · replace hf := p_t c1 hf
    cases hf
    exact x_vret hP rfl dX5_search_7
def f_X5_glowOf_L4 (n0 : Nat) : Nat → Int32 → Int32 → Int32 → Mem → Option (Int32)
  | 0, _, _, _, _ => none
  | fu + 1, l1, l2, l3, M =>
    (rT M n0 0).bind fun t1 =>
    if M.1 t1 12 ≤ l3 then
      some l2
    else
      if (l1 >>> (l3 &&& 31)) &&& (1 : Int32) = (1 : Int32) then
        (ag M (n0 + 2) 6 l3).bind fun v4 =>
        lt (l2 + v4 : Int32) fun v5 =>
        lt (l3 + 1 : Int32) fun v6 =>
        f_X5_glowOf_L4 n0 fu l1 v5 v6 M
      else
        lt (l3 + 1 : Int32) fun v7 =>
        f_X5_glowOf_L4 n0 fu l1 l2 v7 M
def f_X5_glowOf (n0 : Nat) (x1 : Int32) (M : Mem) : Option (Int32) :=
  (f_X5_glowOf_L4 n0 FU x1 (0 : Int32) (0 : Int32) M).bind fun t8 =>
  some t8
set_option maxHeartbeats 1000000 in
set_option maxRecDepth 20000 in
theorem t_X5_glowOf_L4 {g : GG} {d : Nat} {P : PT} {res : Option RS} (hd : 1 ≤ d) {n0 : Nat} (hn0 : isN n0) (hP : IsM g iX5_glowOf d res P) : ∀ (fu : Nat) (l1 : Int32) (l2 : Int32) (l3 : Int32) (M : Mem) (t : Int32), f_X5_glowOf_L4 n0 fu l1 l2 l3 M = some t → P 39 [none, none, some (.int t), none] [] LAY M → P 4 [some (.ref n0), some (.int l1), some (.int l2), some (.int l3)] [] LAY M := by
  have hd1 : 1 ≤ d := by omega
  intro fu
  induction fu with
  | zero => intro l1 l2 l3 M t hf; simp [f_X5_glowOf_L4] at hf
  | succ fu ih =>
    intro l1 l2 l3 M t hf hx
    rw [f_X5_glowOf_L4] at hf
    refine x_iload_n hP dX5_glowOf_4 rfl ?_
    refine x_aload_n hP dX5_glowOf_5 rfl ?_
    obtain ⟨t1, ht1, hrt1, hf⟩ := b_rT hf
    refine x_getM hP fX5_35 (layN hn0) hrt1 dX5_glowOf_6 ?_
    refine x_getI hP fX5_41 (layT ht1) dX5_glowOf_9 ?_
    refine x_icmp_ge hP dX5_glowOf_12 (tgt := 39) (by decide) (fun c2 => ?_) (fun c2 => ?_)
    · replace hf := p_t c2 hf
      refine x_drop hP [none, none, some (.int l2), none] (And.intro rfl trivial) ?_
      cases hf
      exact hx
    · replace hf := p_f c2 hf
      refine x_iload_n hP dX5_glowOf_15 rfl ?_
      refine x_iload_n hP dX5_glowOf_16 rfl ?_
      refine x_ishr hP dX5_glowOf_17 ?_
      refine x_iconst hP dX5_glowOf_18 (v := 1) rfl ?_
      refine x_iand hP dX5_glowOf_19 ?_
      refine x_iconst hP dX5_glowOf_20 (v := 1) rfl ?_
      refine x_icmp_ne hP dX5_glowOf_21 (tgt := 33) (by decide) (fun c3 => ?_) (fun c3 => ?_)
      · replace hf := p_f c3 hf
        obtain ⟨v7, hv7, hf⟩ := b_lt hf
        refine x_iinc hP (v := v7) (ls2 := [some (.ref n0), some (.int l1), some (.int l2), some (.int v7)]) dX5_glowOf_33 rfl (by rw [hv7]; rfl) rfl rfl ?_
        refine x_goto hP dX5_glowOf_36 (tgt := 4) (by decide) ?_
        refine x_drop hP [some (.ref n0), some (.int l1), some (.int l2), some (.int v7)] (And.intro rfl (And.intro rfl (And.intro rfl (And.intro rfl trivial)))) ?_
        exact ih _ _ _ _ _ hf hx
      · replace hf := p_t c3 hf
        refine x_iload_n hP dX5_glowOf_24 rfl ?_
        refine x_aload_n hP dX5_glowOf_25 rfl ?_
        refine x_getA hP fX5_46 (layN hn0) (r := n0 + 2) rfl dX5_glowOf_26 ?_
        refine x_iload_n hP dX5_glowOf_29 rfl ?_
        obtain ⟨v4, hiv4, hv4, hf⟩ := b_ag hf
        refine y_ald hP (layN_2 hn0) hiv4 hv4 dX5_glowOf_30 ?_
        refine x_iadd hP dX5_glowOf_31 ?_
        obtain ⟨v5, hv5, hf⟩ := b_lt hf
        refine y_nmI hv5 ?_
        refine x_istore_n hP (ls2 := [some (.ref n0), some (.int l1), some (.int v5), some (.int l3)]) dX5_glowOf_32 rfl rfl rfl ?_
        obtain ⟨v6, hv6, hf⟩ := b_lt hf
        refine x_iinc hP (v := v6) (ls2 := [some (.ref n0), some (.int l1), some (.int v5), some (.int v6)]) dX5_glowOf_33 rfl (by rw [hv6]; rfl) rfl rfl ?_
        refine x_goto hP dX5_glowOf_36 (tgt := 4) (by decide) ?_
        refine x_drop hP [some (.ref n0), some (.int l1), some (.int v5), some (.int v6)] (And.intro rfl (And.intro rfl (And.intro rfl (And.intro rfl trivial)))) ?_
        exact ih _ _ _ _ _ hf hx
set_option maxHeartbeats 1000000 in
set_option maxRecDepth 20000 in
theorem t_X5_glowOf {g : GG} {d : Nat} (hd : 1 ≤ d) {n0 : Nat} (hn0 : isN n0) {x1 : Int32} {M : Mem} {r : Int32} (hf : f_X5_glowOf n0 x1 M = some r) : ExM g d iX5_glowOf [.ref n0, .int x1] LAY M (some (.int r), LAY, M) := by
  have hd1 : 1 ≤ d := by omega
  refine ExM.main pnX5 rfl (ls := [some (.ref n0), some (.int x1), none, none]) rfl ?_
  intro P hP
  rw [f_X5_glowOf] at hf
  refine x_iconst hP dX5_glowOf_0 (v := 0) rfl ?_
  refine x_istore_n hP (ls2 := [some (.ref n0), some (.int x1), some (.int (0 : Int32)), none]) dX5_glowOf_1 rfl rfl rfl ?_
  refine x_iconst hP dX5_glowOf_2 (v := 0) rfl ?_
  refine x_istore_n hP (ls2 := [some (.ref n0), some (.int x1), some (.int (0 : Int32)), some (.int (0 : Int32))]) dX5_glowOf_3 rfl rfl rfl ?_
  refine x_drop hP [some (.ref n0), some (.int x1), some (.int (0 : Int32)), some (.int (0 : Int32))] (And.intro rfl (And.intro rfl (And.intro rfl (And.intro rfl trivial)))) ?_
  obtain ⟨t8, hl9, hf⟩ := b_bd hf
  refine t_X5_glowOf_L4 hd hn0 hP _ _ _ _ _ _ hl9 ?_
  refine x_iload_n hP dX5_glowOf_39 rfl ?_
  cases hf
  exact x_iret hP rfl dX5_glowOf_40
def f_X5_fewestFor_L41 (n1 : Nat) : Nat → Int32 → Int32 → Int32 → Int32 → Mem → Option (Int32)
  | 0, _, _, _, _, _ => none
  | fu + 1, l3, l4, l5, l6, M =>
    (rT M n1 0).bind fun t12 =>
    if (1 : Int32) <<< ((M.1 t12 12) &&& 31) ≤ l6 then
      some l5
    else
      (
        if l5 = (-1 : Int32) then
          some (1 : Int32)
        else
          (f_J6_bitCount_0f7a4 l6).bind fun v17 =>
          (f_J6_bitCount_0f7a4 l5).bind fun v19 =>
          if v19 ≤ v17 then
            some (0 : Int32)
          else
            some (1 : Int32)
      ).bind fun t14 =>
      if t14 = 0 then
        lt (l6 + 1 : Int32) fun v22 =>
        f_X5_fewestFor_L41 n1 fu l3 l4 l5 v22 M
      else
        if l6 &&& (l3 ||| (M.1 n1 3)) = 0 then
          (f_X5_glowOf n1 l6 M).bind fun v25 =>
          if v25 < l4 then
            lt (l6 + 1 : Int32) fun v27 =>
            f_X5_fewestFor_L41 n1 fu l3 l4 l5 v27 M
          else
            lt (l6 + 1 : Int32) fun v28 =>
            f_X5_fewestFor_L41 n1 fu l3 l4 l6 v28 M
        else
          lt (l6 + 1 : Int32) fun v29 =>
          f_X5_fewestFor_L41 n1 fu l3 l4 l5 v29 M
def f_X5_fewestFor (n1 : Nat) (x2 : Int32) (M : Mem) : Option (Int32) :=
  (rT M n1 0).bind fun t1 =>
  (ag M (t1 + 1) 10 x2).bind fun v2 =>
  (f_X3_whoIsAt n1 v2 M).bind fun v4 =>
  (rT M n1 0).bind fun t5 =>
  (ag M (t5 + 2) 10 x2).bind fun v6 =>
  (f_X3_whoIsAt n1 v6 M).bind fun v8 =>
  lt (v4 ||| v8 : Int32) fun v9 =>
  (f_X3_needsOf n1 x2 M).bind fun v11 =>
  (f_X5_fewestFor_L41 n1 FU v9 v11 (-1 : Int32) (0 : Int32) M).bind fun t30 =>
  some t30
set_option maxHeartbeats 1000000 in
set_option maxRecDepth 20000 in
theorem t_X5_fewestFor_L41 {g : GG} {d : Nat} {P : PT} {res : Option RS} (hd : 3 ≤ d) {n1 : Nat} (hn1 : isN n1) (hP : IsM g iX5_fewestFor d res P) : ∀ (fu : Nat) (l3 : Int32) (l4 : Int32) (l5 : Int32) (l6 : Int32) (M : Mem) (t : Int32), f_X5_fewestFor_L41 n1 fu l3 l4 l5 l6 M = some t → P 119 [none, none, none, none, none, some (.int t), none, none] [] LAY M → P 41 [none, some (.ref n1), none, some (.int l3), some (.int l4), some (.int l5), some (.int l6), none] [] LAY M := by
  have hd1 : 1 ≤ d := by omega
  intro fu
  induction fu with
  | zero => intro l3 l4 l5 l6 M t hf; simp [f_X5_fewestFor_L41] at hf
  | succ fu ih =>
    intro l3 l4 l5 l6 M t hf hx
    rw [f_X5_fewestFor_L41] at hf
    refine x_iload hP dX5_fewestFor_41 rfl ?_
    refine x_iconst hP dX5_fewestFor_43 (v := 1) rfl ?_
    refine x_aload_n hP dX5_fewestFor_44 rfl ?_
    obtain ⟨t12, ht12, hrt12, hf⟩ := b_rT hf
    refine x_getM hP fX5_35 (layN hn1) hrt12 dX5_fewestFor_45 ?_
    refine x_getI hP fX5_41 (layT ht12) dX5_fewestFor_48 ?_
    refine x_ishl hP dX5_fewestFor_51 ?_
    refine x_icmp_ge hP dX5_fewestFor_52 (tgt := 119) (by decide) (fun c13 => ?_) (fun c13 => ?_)
    · replace hf := p_t c13 hf
      refine x_drop hP [none, none, none, none, none, some (.int l5), none, none] (And.intro rfl trivial) ?_
      cases hf
      exact hx
    · replace hf := p_f c13 hf
      refine x_iload hP dX5_fewestFor_55 rfl ?_
      refine x_iconst hP dX5_fewestFor_57 (v := (-1)) rfl ?_
      obtain ⟨t14, het14, hf⟩ := b_bd hf
      have hj14 : P 79 [none, some (.ref n1), none, some (.int l3), some (.int l4), some (.int l5), some (.int l6), none] [.int t14] LAY M := by
        refine x_istore hP (ls2 := [none, some (.ref n1), none, some (.int l3), some (.int l4), some (.int l5), some (.int l6), some (.int t14)]) dX5_fewestFor_79 rfl rfl ?_
        refine x_iload hP dX5_fewestFor_81 rfl ?_
        refine x_if_eq hP dX5_fewestFor_83 (tgt := 113) (by decide) (fun c21 => ?_) (fun c21 => ?_)
        · replace hf := p_t c21 hf
          obtain ⟨v22, hv22, hf⟩ := b_lt hf
          refine x_iinc hP (v := v22) (ls2 := [none, some (.ref n1), none, some (.int l3), some (.int l4), some (.int l5), some (.int v22), some (.int t14)]) dX5_fewestFor_113 rfl (by rw [hv22]; rfl) rfl rfl ?_
          refine x_goto hP dX5_fewestFor_116 (tgt := 41) (by decide) ?_
          refine x_drop hP [none, some (.ref n1), none, some (.int l3), some (.int l4), some (.int l5), some (.int v22), none] (And.intro rfl (And.intro rfl (And.intro rfl (And.intro rfl (And.intro rfl trivial))))) ?_
          exact ih _ _ _ _ _ _ hf hx
        · replace hf := p_f c21 hf
          refine x_iload hP dX5_fewestFor_86 rfl ?_
          refine x_iload_n hP dX5_fewestFor_88 rfl ?_
          refine x_aload_n hP dX5_fewestFor_89 rfl ?_
          refine x_getI hP fX5_77 (layN hn1) dX5_fewestFor_90 ?_
          refine x_ior hP dX5_fewestFor_93 ?_
          refine x_iand hP dX5_fewestFor_94 ?_
          refine x_if_ne hP dX5_fewestFor_95 (tgt := 113) (by decide) (fun c23 => ?_) (fun c23 => ?_)
          · replace hf := p_f c23 hf
            obtain ⟨v29, hv29, hf⟩ := b_lt hf
            refine x_iinc hP (v := v29) (ls2 := [none, some (.ref n1), none, some (.int l3), some (.int l4), some (.int l5), some (.int v29), some (.int t14)]) dX5_fewestFor_113 rfl (by rw [hv29]; rfl) rfl rfl ?_
            refine x_goto hP dX5_fewestFor_116 (tgt := 41) (by decide) ?_
            refine x_drop hP [none, some (.ref n1), none, some (.int l3), some (.int l4), some (.int l5), some (.int v29), none] (And.intro rfl (And.intro rfl (And.intro rfl (And.intro rfl (And.intro rfl trivial))))) ?_
            exact ih _ _ _ _ _ _ hf hx
          · replace hf := p_t c23 hf
            refine x_aload_n hP dX5_fewestFor_98 rfl ?_
            refine x_iload hP dX5_fewestFor_99 rfl ?_
            obtain ⟨v25, hc24, hf⟩ := b_bd hf
            refine y_csi hP oX5_glowOf lX5_80 [.ref n1, .int l6] [] rfl rfl rfl dX5_fewestFor_101 (t_X5_glowOf (d := d - 1) (by omega) hn1 hc24) (by omega) ?_
            refine x_iload hP dX5_fewestFor_104 rfl ?_
            refine x_icmp_lt hP dX5_fewestFor_106 (tgt := 113) (by decide) (fun c26 => ?_) (fun c26 => ?_)
            · replace hf := p_t c26 hf
              obtain ⟨v27, hv27, hf⟩ := b_lt hf
              refine x_iinc hP (v := v27) (ls2 := [none, some (.ref n1), none, some (.int l3), some (.int l4), some (.int l5), some (.int v27), some (.int t14)]) dX5_fewestFor_113 rfl (by rw [hv27]; rfl) rfl rfl ?_
              refine x_goto hP dX5_fewestFor_116 (tgt := 41) (by decide) ?_
              refine x_drop hP [none, some (.ref n1), none, some (.int l3), some (.int l4), some (.int l5), some (.int v27), none] (And.intro rfl (And.intro rfl (And.intro rfl (And.intro rfl (And.intro rfl trivial))))) ?_
              exact ih _ _ _ _ _ _ hf hx
            · replace hf := p_f c26 hf
              refine x_iload hP dX5_fewestFor_109 rfl ?_
              refine x_istore hP (ls2 := [none, some (.ref n1), none, some (.int l3), some (.int l4), some (.int l6), some (.int l6), some (.int t14)]) dX5_fewestFor_111 rfl rfl ?_
              obtain ⟨v28, hv28, hf⟩ := b_lt hf
              refine x_iinc hP (v := v28) (ls2 := [none, some (.ref n1), none, some (.int l3), some (.int l4), some (.int l6), some (.int v28), some (.int t14)]) dX5_fewestFor_113 rfl (by rw [hv28]; rfl) rfl rfl ?_
              refine x_goto hP dX5_fewestFor_116 (tgt := 41) (by decide) ?_
              refine x_drop hP [none, some (.ref n1), none, some (.int l3), some (.int l4), some (.int l6), some (.int v28), none] (And.intro rfl (And.intro rfl (And.intro rfl (And.intro rfl (And.intro rfl trivial))))) ?_
              exact ih _ _ _ _ _ _ hf hx
      clear hf
      have hf := het14
      clear het14
      refine x_icmp_eq hP dX5_fewestFor_58 (tgt := 74) (by decide) (fun c15 => ?_) (fun c15 => ?_)
      · replace hf := p_t c15 hf
        refine x_iconst hP dX5_fewestFor_74 (v := 1) rfl ?_
        refine x_goto hP dX5_fewestFor_75 (tgt := 79) (by decide) ?_
        refine x_drop hP [none, some (.ref n1), none, some (.int l3), some (.int l4), some (.int l5), some (.int l6), none] (And.intro rfl (And.intro rfl (And.intro rfl (And.intro rfl (And.intro rfl trivial))))) ?_
        cases hf
        exact hj14
      · replace hf := p_f c15 hf
        refine x_iload hP dX5_fewestFor_61 rfl ?_
        obtain ⟨v17, hc16, hf⟩ := b_bd hf
        refine y_csi hP oJ6_bitCount_0f7a4 lX5_72 [.int l6] [] rfl rfl rfl dX5_fewestFor_63 (t_J6_bitCount_0f7a4 (d := d - 1) (by omega) hc16) (by omega) ?_
        refine x_iload hP dX5_fewestFor_66 rfl ?_
        obtain ⟨v19, hc18, hf⟩ := b_bd hf
        refine y_csi hP oJ6_bitCount_0f7a4 lX5_72 [.int l5] [.int v17] rfl rfl rfl dX5_fewestFor_68 (t_J6_bitCount_0f7a4 (d := d - 1) (by omega) hc18) (by omega) ?_
        refine x_icmp_ge hP dX5_fewestFor_71 (tgt := 78) (by decide) (fun c20 => ?_) (fun c20 => ?_)
        · replace hf := p_t c20 hf
          refine x_iconst hP dX5_fewestFor_78 (v := 0) rfl ?_
          refine x_drop hP [none, some (.ref n1), none, some (.int l3), some (.int l4), some (.int l5), some (.int l6), none] (And.intro rfl (And.intro rfl (And.intro rfl (And.intro rfl (And.intro rfl trivial))))) ?_
          cases hf
          exact hj14
        · replace hf := p_f c20 hf
          refine x_iconst hP dX5_fewestFor_74 (v := 1) rfl ?_
          refine x_goto hP dX5_fewestFor_75 (tgt := 79) (by decide) ?_
          refine x_drop hP [none, some (.ref n1), none, some (.int l3), some (.int l4), some (.int l5), some (.int l6), none] (And.intro rfl (And.intro rfl (And.intro rfl (And.intro rfl (And.intro rfl trivial))))) ?_
          cases hf
          exact hj14
set_option maxHeartbeats 1000000 in
set_option maxRecDepth 20000 in
theorem t_X5_fewestFor {g : GG} {d : Nat} (hd : 3 ≤ d) {n1 : Nat} (hn1 : isN n1) {x2 : Int32} {M : Mem} {r : Int32} (hf : f_X5_fewestFor n1 x2 M = some r) : ExM g d iX5_fewestFor [.ref 48, .ref n1, .int x2] LAY M (some (.int r), LAY, M) := by
  have hd1 : 1 ≤ d := by omega
  refine ExM.main pnX5 rfl (ls := [some (.ref 48), some (.ref n1), some (.int x2), none, none, none, none, none]) rfl ?_
  intro P hP
  rw [f_X5_fewestFor] at hf
  refine x_aload_n hP dX5_fewestFor_0 rfl ?_
  refine x_aload_n hP dX5_fewestFor_1 rfl ?_
  obtain ⟨t1, ht1, hrt1, hf⟩ := b_rT hf
  refine x_getM hP fX5_35 (layN hn1) hrt1 dX5_fewestFor_2 ?_
  refine x_getA hP fX5_59 (layT ht1) (r := t1 + 1) rfl dX5_fewestFor_5 ?_
  refine x_iload_n hP dX5_fewestFor_8 rfl ?_
  obtain ⟨v2, hiv2, hv2, hf⟩ := b_ag hf
  refine y_ald hP (layT_1 ht1) hiv2 hv2 dX5_fewestFor_9 ?_
  obtain ⟨v4, hc3, hf⟩ := b_bd hf
  refine y_cvi hP oX3_whoIsAt lX5_62 [.int v2] [] rfl rfl rfl (layN hn1) dX5_fewestFor_10 (t_X3_whoIsAt (d := d - 1) (by omega) hn1 hc3) (by omega) ?_
  refine x_aload_n hP dX5_fewestFor_13 rfl ?_
  refine x_aload_n hP dX5_fewestFor_14 rfl ?_
  obtain ⟨t5, ht5, hrt5, hf⟩ := b_rT hf
  refine x_getM hP fX5_35 (layN hn1) hrt5 dX5_fewestFor_15 ?_
  refine x_getA hP fX5_66 (layT ht5) (r := t5 + 2) rfl dX5_fewestFor_18 ?_
  refine x_iload_n hP dX5_fewestFor_21 rfl ?_
  obtain ⟨v6, hiv6, hv6, hf⟩ := b_ag hf
  refine y_ald hP (layT_2 ht5) hiv6 hv6 dX5_fewestFor_22 ?_
  obtain ⟨v8, hc7, hf⟩ := b_bd hf
  refine y_cvi hP oX3_whoIsAt lX5_62 [.int v6] [.int v4] rfl rfl rfl (layN hn1) dX5_fewestFor_23 (t_X3_whoIsAt (d := d - 1) (by omega) hn1 hc7) (by omega) ?_
  refine x_ior hP dX5_fewestFor_26 ?_
  obtain ⟨v9, hv9, hf⟩ := b_lt hf
  refine y_nmI hv9 ?_
  refine x_istore_n hP (ls2 := [some (.ref 48), some (.ref n1), some (.int x2), some (.int v9), none, none, none, none]) dX5_fewestFor_27 rfl rfl rfl ?_
  refine x_aload_n hP dX5_fewestFor_28 rfl ?_
  refine x_iload_n hP dX5_fewestFor_29 rfl ?_
  obtain ⟨v11, hc10, hf⟩ := b_bd hf
  refine y_cvi hP oX3_needsOf lX5_69 [.int x2] [] rfl rfl rfl (layN hn1) dX5_fewestFor_30 (t_X3_needsOf (d := d - 1) (by omega) hn1 hc10) (by omega) ?_
  refine x_istore hP (ls2 := [some (.ref 48), some (.ref n1), some (.int x2), some (.int v9), some (.int v11), none, none, none]) dX5_fewestFor_33 rfl rfl ?_
  refine x_iconst hP dX5_fewestFor_35 (v := (-1)) rfl ?_
  refine x_istore hP (ls2 := [some (.ref 48), some (.ref n1), some (.int x2), some (.int v9), some (.int v11), some (.int (-1 : Int32)), none, none]) dX5_fewestFor_36 rfl rfl ?_
  refine x_iconst hP dX5_fewestFor_38 (v := 0) rfl ?_
  refine x_istore hP (ls2 := [some (.ref 48), some (.ref n1), some (.int x2), some (.int v9), some (.int v11), some (.int (-1 : Int32)), some (.int (0 : Int32)), none]) dX5_fewestFor_39 rfl rfl ?_
  refine x_drop hP [none, some (.ref n1), none, some (.int v9), some (.int v11), some (.int (-1 : Int32)), some (.int (0 : Int32)), none] (And.intro rfl (And.intro rfl (And.intro rfl (And.intro rfl (And.intro rfl trivial))))) ?_
  obtain ⟨t30, hl31, hf⟩ := b_bd hf
  refine t_X5_fewestFor_L41 hd hn1 hP _ _ _ _ _ _ _ hl31 ?_
  refine x_iload hP dX5_fewestFor_119 rfl ?_
  cases hf
  exact x_iret hP rfl dX5_fewestFor_121

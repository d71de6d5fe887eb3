-- by program: wip/whole/gen/build_parts.py
def f_X12_darkens_L16 (k : Mem → Option (Int32 × Mem)) : Nat → Int32 → Int32 → Mem → Option (Int32 × Mem)
  | 0, _, _, _ => none
  | fu + 1, l1, l2, M =>
    if (100 : Int32) < l2 then
      k M
    else
      (f_X12_needsOf l1 M).bind fun v8 =>
      if v8 ≤ 0 then
        (f_X12_hourGoes M).bind fun M11 =>
        lt (l2 + 1 : Int32) fun v12 =>
        f_X12_darkens_L16 k fu l1 v12 M11
      else
        some (l2, M)
def f_X12_darkens (x1 : Int32) (M : Mem) : Option (Int32 × Mem) :=
  (f_X12_isStreet x1 M).bind fun v2 =>
  if v2 = 0 then
    some ((-1 : Int32), M)
  else
    (f_X12_copiesStill M).bind fun M5 =>
    f_X12_darkens_L16 (fun t13 =>
        some ((-2 : Int32), t13)
      ) FU x1 (0 : Int32) M5
set_option maxHeartbeats 1000000 in
set_option maxRecDepth 20000 in
theorem t_X12_darkens_L16 {g : GG} {d : Nat} {P : PT} {r : Int32} {M' : Mem} (hd : 5 ≤ d)  {l1 : Int32} (hP : IsM g iX12_darkens d (some (some (.int r), LAY, M')) P) {k : Mem → Option (Int32 × Mem)} (hk : ∀ t : Mem, k t = some (r, M') → P 42 [none, none, none] [] LAY t) : ∀ (fu : Nat) (l2 : Int32) (M : Mem), f_X12_darkens_L16 k fu l1 l2 M = some (r, M') → P 16 [some (.ref 67), some (.int l1), some (.int l2)] [] LAY M := by
  have hd1 : 1 ≤ d := by omega
  intro fu
  induction fu with
  | zero => intro l2 M hf; simp [f_X12_darkens_L16] at hf
  | succ fu ih =>
    intro l2 M hf
    rw [f_X12_darkens_L16] at hf
    refine x_iload_n hP dX12_darkens_16 rfl ?_
    refine x_bipush hP dX12_darkens_17 (v := 100) rfl ?_
    refine x_icmp_gt hP dX12_darkens_19 (tgt := 42) (by decide) (fun c6 => ?_) (fun c6 => ?_)
    · replace hf := p_t c6 hf
      refine x_drop hP [none, none, none] trivial ?_
      exact hk _ hf
    · replace hf := p_f c6 hf
      refine x_aload_n hP dX12_darkens_22 rfl ?_
      refine x_iload_n hP dX12_darkens_23 rfl ?_
      obtain ⟨v8, hc7, hf⟩ := b_bd hf
      refine y_cvi hP oX12_needsOf lX12_408 [.int l1] [] rfl rfl rfl lay67 dX12_darkens_24 (t_X12_needsOf (d := d - 1) (by omega) hc7) (by omega) ?_
      refine x_if_le hP dX12_darkens_27 (tgt := 32) (by decide) (fun c9 => ?_) (fun c9 => ?_)
      · replace hf := p_t c9 hf
        refine x_aload_n hP dX12_darkens_32 rfl ?_
        obtain ⟨M11, hc10, hf⟩ := b_bd hf
        refine y_cvv hP oX12_hourGoes lX12_386 [] [] rfl rfl rfl lay67 dX12_darkens_33 (t_X12_hourGoes (d := d - 1) (by omega) hc10) (by omega) ?_
        obtain ⟨v12, hv12, hf⟩ := b_lt hf
        refine x_iinc hP (v := v12) (ls2 := [some (.ref 67), some (.int l1), some (.int v12)]) dX12_darkens_36 rfl (by rw [hv12]; rfl) rfl rfl ?_
        refine x_goto hP dX12_darkens_39 (tgt := 16) (by decide) ?_
        refine x_drop hP [some (.ref 67), some (.int l1), some (.int v12)] (And.intro rfl (And.intro rfl (And.intro rfl trivial))) ?_
        exact ih _ _ hf
      · replace hf := p_f c9 hf
        refine x_iload_n hP dX12_darkens_30 rfl ?_
        cases hf
        exact x_iret hP rfl dX12_darkens_31
set_option maxHeartbeats 1000000 in
set_option maxRecDepth 20000 in
theorem t_X12_darkens {g : GG} {d : Nat} (hd : 5 ≤ d) {x1 : Int32} {M : Mem} {r : Int32} {M' : Mem} (hf : f_X12_darkens x1 M = some (r, M')) : ExM g d iX12_darkens [.ref 67, .int x1] LAY M (some (.int r), LAY, M') := by
  have hd1 : 1 ≤ d := by omega
  refine ExM.main pnX12 rfl (ls := [some (.ref 67), some (.int x1), none]) rfl ?_
  intro P hP
  rw [f_X12_darkens] at hf
  refine x_aload_n hP dX12_darkens_0 rfl ?_
  refine x_iload_n hP dX12_darkens_1 rfl ?_
  obtain ⟨v2, hc1, hf⟩ := b_bd hf
  refine y_cvi hP oX12_isStreet lX12_405 [.int x1] [] rfl rfl rfl lay67 dX12_darkens_2 (t_X12_isStreet (d := d - 1) (by omega) hc1) (by omega) ?_
  refine x_if_ne hP dX12_darkens_5 (tgt := 10) (by decide) (fun c3 => ?_) (fun c3 => ?_)
  · replace hf := p_f c3 hf
    refine x_aload_n hP dX12_darkens_10 rfl ?_
    obtain ⟨M5, hc4, hf⟩ := b_bd hf
    refine y_cvv hP oX12_copiesStill lX12_429 [] [] rfl rfl rfl lay67 dX12_darkens_11 (t_X12_copiesStill (d := d - 1) (by omega) hc4) (by omega) ?_
    refine x_iconst hP dX12_darkens_14 (v := 0) rfl ?_
    refine x_istore_n hP (ls2 := [some (.ref 67), some (.int x1), some (.int (0 : Int32))]) dX12_darkens_15 rfl rfl rfl ?_
    refine x_drop hP [some (.ref 67), some (.int x1), some (.int (0 : Int32))] (And.intro rfl (And.intro rfl (And.intro rfl trivial))) ?_
    refine t_X12_darkens_L16 hd hP (fun t13 hf => ?_) _ _ _ hf
    refine x_bipush hP dX12_darkens_42 (v := (-2)) rfl ?_
    cases hf
    exact x_iret hP rfl dX12_darkens_44
  · replace hf := p_t c3 hf
    refine x_iconst hP dX12_darkens_8 (v := (-1)) rfl ?_
    cases hf
    exact x_iret hP rfl dX12_darkens_9
def f_X12_fillsBest_L8 : Nat → Int32 → Int32 → Mem → Option (Int32)
  | 0, _, _, _ => none
  | fu + 1, l1, l2, M =>
    (ag M 82 2 (M.1 67 18)).bind fun v3 =>
    if v3 ≤ l2 then
      some l1
    else
      (ag M 104 48 ((12 : Int32) + l2)).bind fun v5 =>
      if v5 = 0 then
        (ag M 77 2 (M.1 67 18)).bind fun v7 =>
        lt (l1 * v7 : Int32) fun v8 =>
        lt (l2 + 1 : Int32) fun v9 =>
        f_X12_fillsBest_L8 fu v8 v9 M
      else
        lt (l2 + 1 : Int32) fun v10 =>
        f_X12_fillsBest_L8 fu l1 v10 M
def f_X12_fillsBest_L76 : Nat → Int32 → Int32 → Int32 → Int32 → Int32 → Mem → Option (Mem)
  | 0, _, _, _, _, _, _ => none
  | fu + 1, l1, l2, l3, l4, l5, M =>
    if l5 < 0 then
      some M
    else
      (ag M 104 48 ((12 : Int32) + l5)).bind fun v17 =>
      if v17 = (1 : Int32) then
        lt (l5 + (-1) : Int32) fun v19 =>
        f_X12_fillsBest_L76 fu l1 l2 l3 l4 v19 M
      else
        (ag M 77 2 (M.1 67 18)).bind fun v20 =>
        (rm l4 v20).bind fun v21 =>
        (pg M 104 48 l5 v21).bind fun M22 =>
        (ag M22 77 2 (M22.1 67 18)).bind fun v23 =>
        (dv l4 v23).bind fun v24 =>
        lt (l5 + (-1) : Int32) fun v25 =>
        f_X12_fillsBest_L76 fu l1 l2 l3 v24 v25 M22
def f_X12_fillsBest_L161 : Nat → Int32 → Int32 → Int32 → Int32 → Mem → Option (Mem)
  | 0, _, _, _, _, _ => none
  | fu + 1, l1, l2, l3, l6, M =>
    (ag M 82 2 (M.1 67 18)).bind fun v33 =>
    if v33 ≤ l6 then
      some M
    else
      (ag M 104 48 ((12 : Int32) + l6)).bind fun v35 =>
      (
        if v35 = (1 : Int32) then
          some (-2 : Int32)
        else
          (ag M 104 48 l6).bind fun v38 =>
          some v38
      ).bind fun t36 =>
      (pg M 109 6 l6 t36).bind fun M39 =>
      lt (l6 + 1 : Int32) fun v40 =>
      f_X12_fillsBest_L161 fu l1 l2 l3 v40 M39
def f_X12_fillsBest_L55 : Nat → Int32 → Int32 → Int32 → Mem → Option (Int32 × Mem)
  | 0, _, _, _, _ => none
  | fu + 1, l1, l2, l3, M =>
    if l1 ≤ l3 then
      some (l2, M)
    else
      (ag M 82 2 (M.1 67 18)).bind fun v14 =>
      lt (v14 - (1 : Int32) : Int32) fun v15 =>
      (f_X12_fillsBest_L76 FU l1 l2 l3 l3 v15 M).bind fun t26 =>
      (f_X12_litBits t26).bind fun t29 =>
      (f_X12_bits t29.1).bind fun v31 =>
      if l2 < v31 then
        (f_X12_fillsBest_L161 FU l1 v31 l3 (0 : Int32) t29.2).bind fun t41 =>
        lt (l3 + 1 : Int32) fun v43 =>
        f_X12_fillsBest_L55 fu l1 v31 v43 t41
      else
        lt (l3 + 1 : Int32) fun v44 =>
        f_X12_fillsBest_L55 fu l1 l2 v44 t29.2
def f_X12_fillsBest (M : Mem) : Option (Int32 × Mem) :=
  (f_X12_copies M).bind fun M2 =>
  (f_X12_fillsBest_L8 FU (1 : Int32) (0 : Int32) M2).bind fun t11 =>
  (f_X12_fillsBest_L55 FU t11 (-1 : Int32) (0 : Int32) M2).bind fun t45 =>
  some (t45.1, t45.2)
set_option maxHeartbeats 1000000 in
set_option maxRecDepth 20000 in
theorem t_X12_fillsBest_L8 {g : GG} {d : Nat} {P : PT} {res : Option RS} (hd : 3 ≤ d)  (hP : IsM g iX12_fillsBest d res P) : ∀ (fu : Nat) (l1 : Int32) (l2 : Int32) (M : Mem) (t : Int32), f_X12_fillsBest_L8 fu l1 l2 M = some t → P 51 [some (.ref 67), some (.int t), none, none, none, none, none] [] LAY M → P 8 [some (.ref 67), some (.int l1), some (.int l2), none, none, none, none] [] LAY M := by
  have hd1 : 1 ≤ d := by omega
  intro fu
  induction fu with
  | zero => intro l1 l2 M t hf; simp [f_X12_fillsBest_L8] at hf
  | succ fu ih =>
    intro l1 l2 M t hf hx
    rw [f_X12_fillsBest_L8] at hf
    refine x_iload_n hP dX12_fillsBest_8 rfl ?_
    refine x_aload_n hP dX12_fillsBest_9 rfl ?_
    refine x_getA hP fX12_61 lay67 (r := 82) rfl dX12_fillsBest_10 ?_
    refine x_aload_n hP dX12_fillsBest_13 rfl ?_
    refine x_getI hP fX12_251 lay67 dX12_fillsBest_14 ?_
    obtain ⟨v3, hiv3, hv3, hf⟩ := b_ag hf
    refine y_ald hP lay82 hiv3 hv3 dX12_fillsBest_17 ?_
    refine x_icmp_ge hP dX12_fillsBest_18 (tgt := 51) (by decide) (fun c4 => ?_) (fun c4 => ?_)
    · replace hf := p_t c4 hf
      refine x_drop hP [some (.ref 67), some (.int l1), none, none, none, none, none] (And.intro rfl (And.intro rfl trivial)) ?_
      cases hf
      exact hx
    · replace hf := p_f c4 hf
      refine x_aload_n hP dX12_fillsBest_21 rfl ?_
      refine x_getA hP fX12_128 lay67 (r := 104) rfl dX12_fillsBest_22 ?_
      refine x_bipush hP dX12_fillsBest_25 (v := 12) rfl ?_
      refine x_iload_n hP dX12_fillsBest_27 rfl ?_
      refine x_iadd hP dX12_fillsBest_28 ?_
      obtain ⟨v5, hiv5, hv5, hf⟩ := b_ag hf
      refine y_ald hP lay104 hiv5 hv5 dX12_fillsBest_29 ?_
      refine x_if_ne hP dX12_fillsBest_30 (tgt := 45) (by decide) (fun c6 => ?_) (fun c6 => ?_)
      · replace hf := p_f c6 hf
        obtain ⟨v10, hv10, hf⟩ := b_lt hf
        refine x_iinc hP (v := v10) (ls2 := [some (.ref 67), some (.int l1), some (.int v10), none, none, none, none]) dX12_fillsBest_45 rfl (by rw [hv10]; rfl) rfl rfl ?_
        refine x_goto hP dX12_fillsBest_48 (tgt := 8) (by decide) ?_
        refine x_drop hP [some (.ref 67), some (.int l1), some (.int v10), none, none, none, none] (And.intro rfl (And.intro rfl (And.intro rfl trivial))) ?_
        exact ih _ _ _ _ hf hx
      · replace hf := p_t c6 hf
        refine x_iload_n hP dX12_fillsBest_33 rfl ?_
        refine x_aload_n hP dX12_fillsBest_34 rfl ?_
        refine x_getA hP fX12_46 lay67 (r := 77) rfl dX12_fillsBest_35 ?_
        refine x_aload_n hP dX12_fillsBest_38 rfl ?_
        refine x_getI hP fX12_251 lay67 dX12_fillsBest_39 ?_
        obtain ⟨v7, hiv7, hv7, hf⟩ := b_ag hf
        refine y_ald hP lay77 hiv7 hv7 dX12_fillsBest_42 ?_
        refine x_imul hP dX12_fillsBest_43 ?_
        obtain ⟨v8, hv8, hf⟩ := b_lt hf
        refine y_nmI hv8 ?_
        refine x_istore_n hP (ls2 := [some (.ref 67), some (.int v8), some (.int l2), none, none, none, none]) dX12_fillsBest_44 rfl rfl rfl ?_
        obtain ⟨v9, hv9, hf⟩ := b_lt hf
        refine x_iinc hP (v := v9) (ls2 := [some (.ref 67), some (.int v8), some (.int v9), none, none, none, none]) dX12_fillsBest_45 rfl (by rw [hv9]; rfl) rfl rfl ?_
        refine x_goto hP dX12_fillsBest_48 (tgt := 8) (by decide) ?_
        refine x_drop hP [some (.ref 67), some (.int v8), some (.int v9), none, none, none, none] (And.intro rfl (And.intro rfl (And.intro rfl trivial))) ?_
        exact ih _ _ _ _ hf hx
set_option maxHeartbeats 1000000 in
set_option maxRecDepth 20000 in
theorem t_X12_fillsBest_L76 {g : GG} {d : Nat} {P : PT} {res : Option RS} (hd : 3 ≤ d)  (hP : IsM g iX12_fillsBest d res P) : ∀ (fu : Nat) (l1 : Int32) (l2 : Int32) (l3 : Int32) (l4 : Int32) (l5 : Int32) (M : Mem) (t : Mem), f_X12_fillsBest_L76 fu l1 l2 l3 l4 l5 M = some t → P 137 [some (.ref 67), some (.int l1), some (.int l2), some (.int l3), none, none, none] [] LAY t → P 76 [some (.ref 67), some (.int l1), some (.int l2), some (.int l3), some (.int l4), some (.int l5), none] [] LAY M := by
  have hd1 : 1 ≤ d := by omega
  intro fu
  induction fu with
  | zero => intro l1 l2 l3 l4 l5 M t hf; simp [f_X12_fillsBest_L76] at hf
  | succ fu ih =>
    intro l1 l2 l3 l4 l5 M t hf hx
    rw [f_X12_fillsBest_L76] at hf
    refine x_iload hP dX12_fillsBest_76 rfl ?_
    refine x_if_lt hP dX12_fillsBest_78 (tgt := 137) (by decide) (fun c16 => ?_) (fun c16 => ?_)
    · replace hf := p_t c16 hf
      refine x_drop hP [some (.ref 67), some (.int l1), some (.int l2), some (.int l3), none, none, none] (And.intro rfl (And.intro rfl (And.intro rfl (And.intro rfl trivial)))) ?_
      cases hf
      exact hx
    · replace hf := p_f c16 hf
      refine x_aload_n hP dX12_fillsBest_81 rfl ?_
      refine x_getA hP fX12_128 lay67 (r := 104) rfl dX12_fillsBest_82 ?_
      refine x_bipush hP dX12_fillsBest_85 (v := 12) rfl ?_
      refine x_iload hP dX12_fillsBest_87 rfl ?_
      refine x_iadd hP dX12_fillsBest_89 ?_
      obtain ⟨v17, hiv17, hv17, hf⟩ := b_ag hf
      refine y_ald hP lay104 hiv17 hv17 dX12_fillsBest_90 ?_
      refine x_iconst hP dX12_fillsBest_91 (v := 1) rfl ?_
      refine x_icmp_ne hP dX12_fillsBest_92 (tgt := 98) (by decide) (fun c18 => ?_) (fun c18 => ?_)
      · replace hf := p_f c18 hf
        refine x_aload_n hP dX12_fillsBest_98 rfl ?_
        refine x_getA hP fX12_128 lay67 (r := 104) rfl dX12_fillsBest_99 ?_
        refine x_iload hP dX12_fillsBest_102 rfl ?_
        refine x_iload hP dX12_fillsBest_104 rfl ?_
        refine x_aload_n hP dX12_fillsBest_106 rfl ?_
        refine x_getA hP fX12_46 lay67 (r := 77) rfl dX12_fillsBest_107 ?_
        refine x_aload_n hP dX12_fillsBest_110 rfl ?_
        refine x_getI hP fX12_251 lay67 dX12_fillsBest_111 ?_
        obtain ⟨v20, hiv20, hv20, hf⟩ := b_ag hf
        refine y_ald hP lay77 hiv20 hv20 dX12_fillsBest_114 ?_
        obtain ⟨v21, hzv21, hv21, hf⟩ := b_rm hf
        refine y_rem hP hzv21 hv21 dX12_fillsBest_115 ?_
        obtain ⟨M22, hiM22, hM22, hf⟩ := b_pg hf
        refine y_ast hP lay104 hiM22 hM22 dX12_fillsBest_116 ?_
        refine x_iload hP dX12_fillsBest_117 rfl ?_
        refine x_aload_n hP dX12_fillsBest_119 rfl ?_
        refine x_getA hP fX12_46 lay67 (r := 77) rfl dX12_fillsBest_120 ?_
        refine x_aload_n hP dX12_fillsBest_123 rfl ?_
        refine x_getI hP fX12_251 lay67 dX12_fillsBest_124 ?_
        obtain ⟨v23, hiv23, hv23, hf⟩ := b_ag hf
        refine y_ald hP lay77 hiv23 hv23 dX12_fillsBest_127 ?_
        obtain ⟨v24, hzv24, hv24, hf⟩ := b_dv hf
        refine y_div hP hzv24 hv24 dX12_fillsBest_128 ?_
        refine x_istore hP (ls2 := [some (.ref 67), some (.int l1), some (.int l2), some (.int l3), some (.int v24), some (.int l5), none]) dX12_fillsBest_129 rfl rfl ?_
        obtain ⟨v25, hv25, hf⟩ := b_lt hf
        refine x_iinc hP (v := v25) (ls2 := [some (.ref 67), some (.int l1), some (.int l2), some (.int l3), some (.int v24), some (.int v25), none]) dX12_fillsBest_131 rfl (by rw [hv25]; rfl) rfl rfl ?_
        refine x_goto hP dX12_fillsBest_134 (tgt := 76) (by decide) ?_
        refine x_drop hP [some (.ref 67), some (.int l1), some (.int l2), some (.int l3), some (.int v24), some (.int v25), none] (And.intro rfl (And.intro rfl (And.intro rfl (And.intro rfl (And.intro rfl (And.intro rfl trivial)))))) ?_
        exact ih _ _ _ _ _ _ _ hf hx
      · replace hf := p_t c18 hf
        refine x_goto hP dX12_fillsBest_95 (tgt := 131) (by decide) ?_
        obtain ⟨v19, hv19, hf⟩ := b_lt hf
        refine x_iinc hP (v := v19) (ls2 := [some (.ref 67), some (.int l1), some (.int l2), some (.int l3), some (.int l4), some (.int v19), none]) dX12_fillsBest_131 rfl (by rw [hv19]; rfl) rfl rfl ?_
        refine x_goto hP dX12_fillsBest_134 (tgt := 76) (by decide) ?_
        refine x_drop hP [some (.ref 67), some (.int l1), some (.int l2), some (.int l3), some (.int l4), some (.int v19), none] (And.intro rfl (And.intro rfl (And.intro rfl (And.intro rfl (And.intro rfl (And.intro rfl trivial)))))) ?_
        exact ih _ _ _ _ _ _ _ hf hx
set_option maxHeartbeats 1000000 in
set_option maxRecDepth 20000 in
theorem t_X12_fillsBest_L161 {g : GG} {d : Nat} {P : PT} {res : Option RS} (hd : 3 ≤ d)  (hP : IsM g iX12_fillsBest d res P) : ∀ (fu : Nat) (l1 : Int32) (l2 : Int32) (l3 : Int32) (l6 : Int32) (M : Mem) (t : Mem), f_X12_fillsBest_L161 fu l1 l2 l3 l6 M = some t → P 214 [some (.ref 67), some (.int l1), some (.int l2), some (.int l3), none, none, none] [] LAY t → P 161 [some (.ref 67), some (.int l1), some (.int l2), some (.int l3), none, none, some (.int l6)] [] LAY M := by
  have hd1 : 1 ≤ d := by omega
  intro fu
  induction fu with
  | zero => intro l1 l2 l3 l6 M t hf; simp [f_X12_fillsBest_L161] at hf
  | succ fu ih =>
    intro l1 l2 l3 l6 M t hf hx
    rw [f_X12_fillsBest_L161] at hf
    refine x_iload hP dX12_fillsBest_161 rfl ?_
    refine x_aload_n hP dX12_fillsBest_163 rfl ?_
    refine x_getA hP fX12_61 lay67 (r := 82) rfl dX12_fillsBest_164 ?_
    refine x_aload_n hP dX12_fillsBest_167 rfl ?_
    refine x_getI hP fX12_251 lay67 dX12_fillsBest_168 ?_
    obtain ⟨v33, hiv33, hv33, hf⟩ := b_ag hf
    refine y_ald hP lay82 hiv33 hv33 dX12_fillsBest_171 ?_
    refine x_icmp_ge hP dX12_fillsBest_172 (tgt := 214) (by decide) (fun c34 => ?_) (fun c34 => ?_)
    · replace hf := p_t c34 hf
      refine x_drop hP [some (.ref 67), some (.int l1), some (.int l2), some (.int l3), none, none, none] (And.intro rfl (And.intro rfl (And.intro rfl (And.intro rfl trivial)))) ?_
      cases hf
      exact hx
    · replace hf := p_f c34 hf
      refine x_aload_n hP dX12_fillsBest_175 rfl ?_
      refine x_getA hP fX12_143 lay67 (r := 109) rfl dX12_fillsBest_176 ?_
      refine x_iload hP dX12_fillsBest_179 rfl ?_
      refine x_aload_n hP dX12_fillsBest_181 rfl ?_
      refine x_getA hP fX12_128 lay67 (r := 104) rfl dX12_fillsBest_182 ?_
      refine x_bipush hP dX12_fillsBest_185 (v := 12) rfl ?_
      refine x_iload hP dX12_fillsBest_187 rfl ?_
      refine x_iadd hP dX12_fillsBest_189 ?_
      obtain ⟨v35, hiv35, hv35, hf⟩ := b_ag hf
      refine y_ald hP lay104 hiv35 hv35 dX12_fillsBest_190 ?_
      refine x_iconst hP dX12_fillsBest_191 (v := 1) rfl ?_
      obtain ⟨t36, het36, hf⟩ := b_bd hf
      have hj36 : P 207 [some (.ref 67), some (.int l1), some (.int l2), some (.int l3), none, none, some (.int l6)] [.int t36, .int l6, .ref 109] LAY M := by
        obtain ⟨M39, hiM39, hM39, hf⟩ := b_pg hf
        refine y_ast hP lay109 hiM39 hM39 dX12_fillsBest_207 ?_
        obtain ⟨v40, hv40, hf⟩ := b_lt hf
        refine x_iinc hP (v := v40) (ls2 := [some (.ref 67), some (.int l1), some (.int l2), some (.int l3), none, none, some (.int v40)]) dX12_fillsBest_208 rfl (by rw [hv40]; rfl) rfl rfl ?_
        refine x_goto hP dX12_fillsBest_211 (tgt := 161) (by decide) ?_
        refine x_drop hP [some (.ref 67), some (.int l1), some (.int l2), some (.int l3), none, none, some (.int v40)] (And.intro rfl (And.intro rfl (And.intro rfl (And.intro rfl (And.intro rfl trivial))))) ?_
        exact ih _ _ _ _ _ _ hf hx
      clear hf
      have hf := het36
      clear het36
      refine x_icmp_ne hP dX12_fillsBest_192 (tgt := 200) (by decide) (fun c37 => ?_) (fun c37 => ?_)
      · replace hf := p_f c37 hf
        refine x_aload_n hP dX12_fillsBest_200 rfl ?_
        refine x_getA hP fX12_128 lay67 (r := 104) rfl dX12_fillsBest_201 ?_
        refine x_iload hP dX12_fillsBest_204 rfl ?_
        obtain ⟨v38, hiv38, hv38, hf⟩ := b_ag hf
        refine y_ald hP lay104 hiv38 hv38 dX12_fillsBest_206 ?_
        refine x_drop hP [some (.ref 67), some (.int l1), some (.int l2), some (.int l3), none, none, some (.int l6)] (And.intro rfl (And.intro rfl (And.intro rfl (And.intro rfl (And.intro rfl trivial))))) ?_
        cases hf
        exact hj36
      · replace hf := p_t c37 hf
        refine x_bipush hP dX12_fillsBest_195 (v := (-2)) rfl ?_
        refine x_goto hP dX12_fillsBest_197 (tgt := 207) (by decide) ?_
        refine x_drop hP [some (.ref 67), some (.int l1), some (.int l2), some (.int l3), none, none, some (.int l6)] (And.intro rfl (And.intro rfl (And.intro rfl (And.intro rfl (And.intro rfl trivial))))) ?_
        cases hf
        exact hj36
set_option maxHeartbeats 1000000 in
set_option maxRecDepth 20000 in
theorem t_X12_fillsBest_L55 {g : GG} {d : Nat} {P : PT} {res : Option RS} (hd : 3 ≤ d)  (hP : IsM g iX12_fillsBest d res P) : ∀ (fu : Nat) (l1 : Int32) (l2 : Int32) (l3 : Int32) (M : Mem) (t : Int32 × Mem), f_X12_fillsBest_L55 fu l1 l2 l3 M = some t → P 220 [none, none, some (.int t.1), none, none, none, none] [] LAY t.2 → P 55 [some (.ref 67), some (.int l1), some (.int l2), some (.int l3), none, none, none] [] LAY M := by
  have hd1 : 1 ≤ d := by omega
  intro fu
  induction fu with
  | zero => intro l1 l2 l3 M t hf; simp [f_X12_fillsBest_L55] at hf
  | succ fu ih =>
    intro l1 l2 l3 M t hf hx
    rw [f_X12_fillsBest_L55] at hf
    refine x_iload_n hP dX12_fillsBest_55 rfl ?_
    refine x_iload_n hP dX12_fillsBest_56 rfl ?_
    refine x_icmp_ge hP dX12_fillsBest_57 (tgt := 220) (by decide) (fun c13 => ?_) (fun c13 => ?_)
    · replace hf := p_t c13 hf
      refine x_drop hP [none, none, some (.int l2), none, none, none, none] (And.intro rfl trivial) ?_
      cases hf
      exact hx
    · replace hf := p_f c13 hf
      refine x_iload_n hP dX12_fillsBest_60 rfl ?_
      refine x_istore hP (ls2 := [some (.ref 67), some (.int l1), some (.int l2), some (.int l3), some (.int l3), none, none]) dX12_fillsBest_61 rfl rfl ?_
      refine x_aload_n hP dX12_fillsBest_63 rfl ?_
      refine x_getA hP fX12_61 lay67 (r := 82) rfl dX12_fillsBest_64 ?_
      refine x_aload_n hP dX12_fillsBest_67 rfl ?_
      refine x_getI hP fX12_251 lay67 dX12_fillsBest_68 ?_
      obtain ⟨v14, hiv14, hv14, hf⟩ := b_ag hf
      refine y_ald hP lay82 hiv14 hv14 dX12_fillsBest_71 ?_
      refine x_iconst hP dX12_fillsBest_72 (v := 1) rfl ?_
      refine x_isub hP dX12_fillsBest_73 ?_
      obtain ⟨v15, hv15, hf⟩ := b_lt hf
      refine y_nmI hv15 ?_
      refine x_istore hP (ls2 := [some (.ref 67), some (.int l1), some (.int l2), some (.int l3), some (.int l3), some (.int v15), none]) dX12_fillsBest_74 rfl rfl ?_
      refine x_drop hP [some (.ref 67), some (.int l1), some (.int l2), some (.int l3), some (.int l3), some (.int v15), none] (And.intro rfl (And.intro rfl (And.intro rfl (And.intro rfl (And.intro rfl (And.intro rfl trivial)))))) ?_
      obtain ⟨t26, hl27, hf⟩ := b_bd hf
      refine t_X12_fillsBest_L76 hd hP _ _ _ _ _ _ _ _ hl27 ?_
      refine x_aload_n hP dX12_fillsBest_137 rfl ?_
      obtain ⟨t29, hc28, hf⟩ := b_bd hf
      refine y_cvi hP oX12_litBits lX12_432 [] [] rfl rfl rfl lay67 dX12_fillsBest_138 (t_X12_litBits (d := d - 1) (by omega) hc28) (by omega) ?_
      obtain ⟨v31, hc30, hf⟩ := b_bd hf
      refine y_csi hP oX12_bits lX12_435 [.int t29.1] [] rfl rfl rfl dX12_fillsBest_141 (t_X12_bits (d := d - 1) (by omega) hc30) (by omega) ?_
      refine x_istore hP (ls2 := [some (.ref 67), some (.int l1), some (.int l2), some (.int l3), none, some (.int v31), none]) dX12_fillsBest_144 rfl rfl ?_
      refine x_iload hP dX12_fillsBest_146 rfl ?_
      refine x_iload_n hP dX12_fillsBest_148 rfl ?_
      refine x_icmp_gt hP dX12_fillsBest_149 (tgt := 155) (by decide) (fun c32 => ?_) (fun c32 => ?_)
      · replace hf := p_t c32 hf
        refine x_iload hP dX12_fillsBest_155 rfl ?_
        refine x_istore_n hP (ls2 := [some (.ref 67), some (.int l1), some (.int v31), some (.int l3), none, some (.int v31), none]) dX12_fillsBest_157 rfl rfl rfl ?_
        refine x_iconst hP dX12_fillsBest_158 (v := 0) rfl ?_
        refine x_istore hP (ls2 := [some (.ref 67), some (.int l1), some (.int v31), some (.int l3), none, some (.int v31), some (.int (0 : Int32))]) dX12_fillsBest_159 rfl rfl ?_
        refine x_drop hP [some (.ref 67), some (.int l1), some (.int v31), some (.int l3), none, none, some (.int (0 : Int32))] (And.intro rfl (And.intro rfl (And.intro rfl (And.intro rfl (And.intro rfl trivial))))) ?_
        obtain ⟨t41, hl42, hf⟩ := b_bd hf
        refine t_X12_fillsBest_L161 hd hP _ _ _ _ _ _ _ hl42 ?_
        obtain ⟨v43, hv43, hf⟩ := b_lt hf
        refine x_iinc hP (v := v43) (ls2 := [some (.ref 67), some (.int l1), some (.int v31), some (.int v43), none, none, none]) dX12_fillsBest_214 rfl (by rw [hv43]; rfl) rfl rfl ?_
        refine x_goto hP dX12_fillsBest_217 (tgt := 55) (by decide) ?_
        refine x_drop hP [some (.ref 67), some (.int l1), some (.int v31), some (.int v43), none, none, none] (And.intro rfl (And.intro rfl (And.intro rfl (And.intro rfl trivial)))) ?_
        exact ih _ _ _ _ _ hf hx
      · replace hf := p_f c32 hf
        refine x_goto hP dX12_fillsBest_152 (tgt := 214) (by decide) ?_
        obtain ⟨v44, hv44, hf⟩ := b_lt hf
        refine x_iinc hP (v := v44) (ls2 := [some (.ref 67), some (.int l1), some (.int l2), some (.int v44), none, some (.int v31), none]) dX12_fillsBest_214 rfl (by rw [hv44]; rfl) rfl rfl ?_
        refine x_goto hP dX12_fillsBest_217 (tgt := 55) (by decide) ?_
        refine x_drop hP [some (.ref 67), some (.int l1), some (.int l2), some (.int v44), none, none, none] (And.intro rfl (And.intro rfl (And.intro rfl (And.intro rfl trivial)))) ?_
        exact ih _ _ _ _ _ hf hx
set_option maxHeartbeats 1000000 in
set_option maxRecDepth 20000 in
theorem t_X12_fillsBest {g : GG} {d : Nat} (hd : 3 ≤ d) {M : Mem} {r : Int32} {M' : Mem} (hf : f_X12_fillsBest M = some (r, M')) : ExM g d iX12_fillsBest [.ref 67] LAY M (some (.int r), LAY, M') := by
  have hd1 : 1 ≤ d := by omega
  refine ExM.main pnX12 rfl (ls := [some (.ref 67), none, none, none, none, none, none]) rfl ?_
  intro P hP
  rw [f_X12_fillsBest] at hf
  refine x_aload_n hP dX12_fillsBest_0 rfl ?_
  obtain ⟨M2, hc1, hf⟩ := b_bd hf
  refine y_cvv hP oX12_copies lX12_347 [] [] rfl rfl rfl lay67 dX12_fillsBest_1 (t_X12_copies (d := d - 1) (by omega) hc1) (by omega) ?_
  refine x_iconst hP dX12_fillsBest_4 (v := 1) rfl ?_
  refine x_istore_n hP (ls2 := [some (.ref 67), some (.int (1 : Int32)), none, none, none, none, none]) dX12_fillsBest_5 rfl rfl rfl ?_
  refine x_iconst hP dX12_fillsBest_6 (v := 0) rfl ?_
  refine x_istore_n hP (ls2 := [some (.ref 67), some (.int (1 : Int32)), some (.int (0 : Int32)), none, none, none, none]) dX12_fillsBest_7 rfl rfl rfl ?_
  refine x_drop hP [some (.ref 67), some (.int (1 : Int32)), some (.int (0 : Int32)), none, none, none, none] (And.intro rfl (And.intro rfl (And.intro rfl trivial))) ?_
  obtain ⟨t11, hl12, hf⟩ := b_bd hf
  refine t_X12_fillsBest_L8 hd hP _ _ _ _ _ hl12 ?_
  refine x_iconst hP dX12_fillsBest_51 (v := (-1)) rfl ?_
  refine x_istore_n hP (ls2 := [some (.ref 67), some (.int t11), some (.int (-1 : Int32)), none, none, none, none]) dX12_fillsBest_52 rfl rfl rfl ?_
  refine x_iconst hP dX12_fillsBest_53 (v := 0) rfl ?_
  refine x_istore_n hP (ls2 := [some (.ref 67), some (.int t11), some (.int (-1 : Int32)), some (.int (0 : Int32)), none, none, none]) dX12_fillsBest_54 rfl rfl rfl ?_
  refine x_drop hP [some (.ref 67), some (.int t11), some (.int (-1 : Int32)), some (.int (0 : Int32)), none, none, none] (And.intro rfl (And.intro rfl (And.intro rfl (And.intro rfl trivial)))) ?_
  obtain ⟨t45, hl46, hf⟩ := b_bd hf
  refine t_X12_fillsBest_L55 hd hP _ _ _ _ _ _ hl46 ?_
  refine x_iload_n hP dX12_fillsBest_220 rfl ?_
  cases hf
  exact x_iret hP rfl dX12_fillsBest_221
def f_X12_best (x1 : Int32) (M : Mem) : Option (Int32 × Mem) :=
  lt (
    (f_X12_fillsBest M).bind fun t3 =>
    if x1 = (-1 : Int32) then
      some (t3.1, t3.2)
    else
      (ag t3.2 109 6 x1).bind fun v5 =>
      some (v5, t3.2)
    ) fun j1 =>
  if x1 = (-1 : Int32) then
    j1
  else
    (f_X12_isYoung x1 M).bind fun v8 =>
    if v8 = 0 then
      some ((-1 : Int32), M)
    else
      j1
set_option maxHeartbeats 1000000 in
set_option maxRecDepth 20000 in
theorem t_X12_best {g : GG} {d : Nat} (hd : 4 ≤ d) {x1 : Int32} {M : Mem} {r : Int32} {M' : Mem} (hf : f_X12_best x1 M = some (r, M')) : ExM g d iX12_best [.ref 67, .int x1] LAY M (some (.int r), LAY, M') := by
  have hd1 : 1 ≤ d := by omega
  refine ExM.main pnX12 rfl (ls := [some (.ref 67), some (.int x1), none]) rfl ?_
  intro P hP
  rw [f_X12_best] at hf
  refine x_iload_n hP dX12_best_0 rfl ?_
  refine x_iconst hP dX12_best_1 (v := (-1)) rfl ?_
  obtain ⟨j1, hj1, hf⟩ := b_lt hf
  have hJj1 : j1 = some (r, M') → P 15 [some (.ref 67), some (.int x1), none] [] LAY M := by
    intro hf
    rw [hj1] at hf
    try dsimp only at hf
    refine x_aload_n hP dX12_best_15 rfl ?_
    obtain ⟨t3, hc2, hf⟩ := b_bd hf
    refine y_cvi hP oX12_fillsBest lX12_438 [] [] rfl rfl rfl lay67 dX12_best_16 (t_X12_fillsBest (d := d - 1) (by omega) hc2) (by omega) ?_
    refine x_istore_n hP (ls2 := [some (.ref 67), some (.int x1), some (.int t3.1)]) dX12_best_19 rfl rfl rfl ?_
    refine x_iload_n hP dX12_best_20 rfl ?_
    refine x_iconst hP dX12_best_21 (v := (-1)) rfl ?_
    refine x_icmp_ne hP dX12_best_22 (tgt := 29) (by decide) (fun c4 => ?_) (fun c4 => ?_)
    · replace hf := p_f c4 hf
      refine x_aload_n hP dX12_best_29 rfl ?_
      refine x_getA hP fX12_143 lay67 (r := 109) rfl dX12_best_30 ?_
      refine x_iload_n hP dX12_best_33 rfl ?_
      obtain ⟨v5, hiv5, hv5, hf⟩ := b_ag hf
      refine y_ald hP lay109 hiv5 hv5 dX12_best_34 ?_
      cases hf
      exact x_iret hP rfl dX12_best_35
    · replace hf := p_t c4 hf
      refine x_iload_n hP dX12_best_25 rfl ?_
      refine x_goto hP dX12_best_26 (tgt := 35) (by decide) ?_
      cases hf
      exact x_iret hP rfl dX12_best_35
  clear hj1
  refine x_icmp_eq hP dX12_best_2 (tgt := 15) (by decide) (fun c6 => ?_) (fun c6 => ?_)
  · replace hf := p_t c6 hf
    refine x_drop hP [some (.ref 67), some (.int x1), none] (And.intro rfl (And.intro rfl trivial)) ?_
    exact hJj1  hf
  · replace hf := p_f c6 hf
    refine x_aload_n hP dX12_best_5 rfl ?_
    refine x_iload_n hP dX12_best_6 rfl ?_
    obtain ⟨v8, hc7, hf⟩ := b_bd hf
    refine y_cvi hP oX12_isYoung lX12_338 [.int x1] [] rfl rfl rfl lay67 dX12_best_7 (t_X12_isYoung (d := d - 1) (by omega) hc7) (by omega) ?_
    refine x_if_ne hP dX12_best_10 (tgt := 15) (by decide) (fun c9 => ?_) (fun c9 => ?_)
    · replace hf := p_f c9 hf
      refine x_drop hP [some (.ref 67), some (.int x1), none] (And.intro rfl (And.intro rfl trivial)) ?_
      exact hJj1  hf
    · replace hf := p_t c9 hf
      refine x_iconst hP dX12_best_13 (v := (-1)) rfl ?_
      cases hf
      exact x_iret hP rfl dX12_best_14
def f_X12_glowBy (x1 : Int32) (x2 : Int32) (M : Mem) : Option (Int32 × Mem) :=
  (ag M 104 48 ((6 : Int32) + x1)).bind fun v1 =>
  (f_X12_glowsOf x1 x2 M).bind fun t3 =>
  (f_X12_within (v1 + t3.1) (0 : Int32) (999 : Int32)).bind fun v5 =>
  some (v5, t3.2)
set_option maxHeartbeats 1000000 in
set_option maxRecDepth 20000 in
theorem t_X12_glowBy {g : GG} {d : Nat} (hd : 4 ≤ d) {x1 : Int32} {x2 : Int32} {M : Mem} {r : Int32} {M' : Mem} (hf : f_X12_glowBy x1 x2 M = some (r, M')) : ExM g d iX12_glowBy [.ref 67, .int x1, .int x2] LAY M (some (.int r), LAY, M') := by
  have hd1 : 1 ≤ d := by omega
  refine ExM.main pnX12 rfl (ls := [some (.ref 67), some (.int x1), some (.int x2)]) rfl ?_
  intro P hP
  rw [f_X12_glowBy] at hf
  refine x_aload_n hP dX12_glowBy_0 rfl ?_
  refine x_getA hP fX12_128 lay67 (r := 104) rfl dX12_glowBy_1 ?_
  refine x_bipush hP dX12_glowBy_4 (v := 6) rfl ?_
  refine x_iload_n hP dX12_glowBy_6 rfl ?_
  refine x_iadd hP dX12_glowBy_7 ?_
  obtain ⟨v1, hiv1, hv1, hf⟩ := b_ag hf
  refine y_ald hP lay104 hiv1 hv1 dX12_glowBy_8 ?_
  refine x_aload_n hP dX12_glowBy_9 rfl ?_
  refine x_iload_n hP dX12_glowBy_10 rfl ?_
  refine x_iload_n hP dX12_glowBy_11 rfl ?_
  obtain ⟨t3, hc2, hf⟩ := b_bd hf
  refine y_cvi hP oX12_glowsOf lX12_370 [.int x1, .int x2] [.int v1] rfl rfl rfl lay67 dX12_glowBy_12 (t_X12_glowsOf (d := d - 1) (by omega) hc2) (by omega) ?_
  refine x_iadd hP dX12_glowBy_15 ?_
  refine x_iconst hP dX12_glowBy_16 (v := 0) rfl ?_
  refine x_sipush hP dX12_glowBy_17 (v := 999) rfl ?_
  obtain ⟨v5, hc4, hf⟩ := b_bd hf
  refine y_csi hP oX12_within lX12_367 [.int (v1 + t3.1), .int (0 : Int32), .int (999 : Int32)] [] rfl rfl rfl dX12_glowBy_20 (t_X12_within (d := d - 1) (by omega) hc4) (by omega) ?_
  cases hf
  exact x_iret hP rfl dX12_glowBy_23
def f_X12_telling_L40 : Nat → Int32 → Int32 → Int32 → Int32 → Mem → Option (Int32 × Mem)
  | 0, _, _, _, _, _ => none
  | fu + 1, l1, l2, l3, l4, M =>
    (ag M 86 2 (M.1 67 18)).bind fun v12 =>
    if v12 ≤ l4 then
      some (l3, M)
    else
      if l3 < 0 then
        lt (l4 + 1 : Int32) fun v15 =>
        f_X12_telling_L40 fu l1 l2 l4 v15 M
      else
        (f_X12_glowBy l1 l4 M).bind fun t17 =>
        (f_X12_glowBy l1 l3 t17.2).bind fun t19 =>
        if t17.1 ≤ t19.1 then
          lt (l4 + 1 : Int32) fun v21 =>
          f_X12_telling_L40 fu l1 l2 l3 v21 t19.2
        else
          lt (l4 + 1 : Int32) fun v22 =>
          f_X12_telling_L40 fu l1 l2 l4 v22 t19.2
def f_X12_telling (x1 : Int32) (x2 : Int32) (M : Mem) : Option (Int32 × Mem) :=
  (f_X12_isYoung x1 M).bind fun v2 =>
  if v2 = 0 then
    some ((-1 : Int32), M)
  else
    (f_X12_in x2 (0 : Int32) (1 : Int32)).bind fun v5 =>
    if v5 = 0 then
      some ((-1 : Int32), M)
    else
      (f_X12_isOut x1 M).bind fun v8 =>
      if v8 = 0 then
        some ((-2 : Int32), M)
      else
        (f_X12_copies M).bind fun M11 =>
        (f_X12_telling_L40 FU x1 x2 (-2 : Int32) (0 : Int32) M11).bind fun t23 =>
        if t23.1 < 0 then
          some (t23.1, t23.2)
        else
          if x2 = 0 then
            some (t23.1, t23.2)
          else
            (f_X12_glowBy x1 t23.1 t23.2).bind fun t28 =>
            some (t28.1, t28.2)
set_option maxHeartbeats 1000000 in
set_option maxRecDepth 20000 in
theorem t_X12_telling_L40 {g : GG} {d : Nat} {P : PT} {res : Option RS} (hd : 5 ≤ d)  (hP : IsM g iX12_telling d res P) : ∀ (fu : Nat) (l1 : Int32) (l2 : Int32) (l3 : Int32) (l4 : Int32) (M : Mem) (t : Int32 × Mem), f_X12_telling_L40 fu l1 l2 l3 l4 M = some t → P 83 [some (.ref 67), some (.int l1), some (.int l2), some (.int t.1), none] [] LAY t.2 → P 40 [some (.ref 67), some (.int l1), some (.int l2), some (.int l3), some (.int l4)] [] LAY M := by
  have hd1 : 1 ≤ d := by omega
  intro fu
  induction fu with
  | zero => intro l1 l2 l3 l4 M t hf; simp [f_X12_telling_L40] at hf
  | succ fu ih =>
    intro l1 l2 l3 l4 M t hf hx
    rw [f_X12_telling_L40] at hf
    refine x_iload hP dX12_telling_40 rfl ?_
    refine x_aload_n hP dX12_telling_42 rfl ?_
    refine x_getA hP fX12_73 lay67 (r := 86) rfl dX12_telling_43 ?_
    refine x_aload_n hP dX12_telling_46 rfl ?_
    refine x_getI hP fX12_251 lay67 dX12_telling_47 ?_
    obtain ⟨v12, hiv12, hv12, hf⟩ := b_ag hf
    refine y_ald hP lay86 hiv12 hv12 dX12_telling_50 ?_
    refine x_icmp_ge hP dX12_telling_51 (tgt := 83) (by decide) (fun c13 => ?_) (fun c13 => ?_)
    · replace hf := p_t c13 hf
      refine x_drop hP [some (.ref 67), some (.int l1), some (.int l2), some (.int l3), none] (And.intro rfl (And.intro rfl (And.intro rfl (And.intro rfl trivial)))) ?_
      cases hf
      exact hx
    · replace hf := p_f c13 hf
      refine x_iload_n hP dX12_telling_54 rfl ?_
      refine x_if_lt hP dX12_telling_55 (tgt := 74) (by decide) (fun c14 => ?_) (fun c14 => ?_)
      · replace hf := p_t c14 hf
        refine x_iload hP dX12_telling_74 rfl ?_
        refine x_istore_n hP (ls2 := [some (.ref 67), some (.int l1), some (.int l2), some (.int l4), some (.int l4)]) dX12_telling_76 rfl rfl rfl ?_
        obtain ⟨v15, hv15, hf⟩ := b_lt hf
        refine x_iinc hP (v := v15) (ls2 := [some (.ref 67), some (.int l1), some (.int l2), some (.int l4), some (.int v15)]) dX12_telling_77 rfl (by rw [hv15]; rfl) rfl rfl ?_
        refine x_goto hP dX12_telling_80 (tgt := 40) (by decide) ?_
        refine x_drop hP [some (.ref 67), some (.int l1), some (.int l2), some (.int l4), some (.int v15)] (And.intro rfl (And.intro rfl (And.intro rfl (And.intro rfl (And.intro rfl trivial))))) ?_
        exact ih _ _ _ _ _ _ hf hx
      · replace hf := p_f c14 hf
        refine x_aload_n hP dX12_telling_58 rfl ?_
        refine x_iload_n hP dX12_telling_59 rfl ?_
        refine x_iload hP dX12_telling_60 rfl ?_
        obtain ⟨t17, hc16, hf⟩ := b_bd hf
        refine y_cvi hP oX12_glowBy lX12_441 [.int l1, .int l4] [] rfl rfl rfl lay67 dX12_telling_62 (t_X12_glowBy (d := d - 1) (by omega) hc16) (by omega) ?_
        refine x_aload_n hP dX12_telling_65 rfl ?_
        refine x_iload_n hP dX12_telling_66 rfl ?_
        refine x_iload_n hP dX12_telling_67 rfl ?_
        obtain ⟨t19, hc18, hf⟩ := b_bd hf
        refine y_cvi hP oX12_glowBy lX12_441 [.int l1, .int l3] [.int t17.1] rfl rfl rfl lay67 dX12_telling_68 (t_X12_glowBy (d := d - 1) (by omega) hc18) (by omega) ?_
        refine x_icmp_le hP dX12_telling_71 (tgt := 77) (by decide) (fun c20 => ?_) (fun c20 => ?_)
        · replace hf := p_t c20 hf
          obtain ⟨v21, hv21, hf⟩ := b_lt hf
          refine x_iinc hP (v := v21) (ls2 := [some (.ref 67), some (.int l1), some (.int l2), some (.int l3), some (.int v21)]) dX12_telling_77 rfl (by rw [hv21]; rfl) rfl rfl ?_
          refine x_goto hP dX12_telling_80 (tgt := 40) (by decide) ?_
          refine x_drop hP [some (.ref 67), some (.int l1), some (.int l2), some (.int l3), some (.int v21)] (And.intro rfl (And.intro rfl (And.intro rfl (And.intro rfl (And.intro rfl trivial))))) ?_
          exact ih _ _ _ _ _ _ hf hx
        · replace hf := p_f c20 hf
          refine x_iload hP dX12_telling_74 rfl ?_
          refine x_istore_n hP (ls2 := [some (.ref 67), some (.int l1), some (.int l2), some (.int l4), some (.int l4)]) dX12_telling_76 rfl rfl rfl ?_
          obtain ⟨v22, hv22, hf⟩ := b_lt hf
          refine x_iinc hP (v := v22) (ls2 := [some (.ref 67), some (.int l1), some (.int l2), some (.int l4), some (.int v22)]) dX12_telling_77 rfl (by rw [hv22]; rfl) rfl rfl ?_
          refine x_goto hP dX12_telling_80 (tgt := 40) (by decide) ?_
          refine x_drop hP [some (.ref 67), some (.int l1), some (.int l2), some (.int l4), some (.int v22)] (And.intro rfl (And.intro rfl (And.intro rfl (And.intro rfl (And.intro rfl trivial))))) ?_
          exact ih _ _ _ _ _ _ hf hx
set_option maxHeartbeats 1000000 in
set_option maxRecDepth 20000 in
theorem t_X12_telling {g : GG} {d : Nat} (hd : 5 ≤ d) {x1 : Int32} {x2 : Int32} {M : Mem} {r : Int32} {M' : Mem} (hf : f_X12_telling x1 x2 M = some (r, M')) : ExM g d iX12_telling [.ref 67, .int x1, .int x2] LAY M (some (.int r), LAY, M') := by
  have hd1 : 1 ≤ d := by omega
  refine ExM.main pnX12 rfl (ls := [some (.ref 67), some (.int x1), some (.int x2), none, none]) rfl ?_
  intro P hP
  rw [f_X12_telling] at hf
  refine x_aload_n hP dX12_telling_0 rfl ?_
  refine x_iload_n hP dX12_telling_1 rfl ?_
  obtain ⟨v2, hc1, hf⟩ := b_bd hf
  refine y_cvi hP oX12_isYoung lX12_338 [.int x1] [] rfl rfl rfl lay67 dX12_telling_2 (t_X12_isYoung (d := d - 1) (by omega) hc1) (by omega) ?_
  refine x_if_eq hP dX12_telling_5 (tgt := 17) (by decide) (fun c3 => ?_) (fun c3 => ?_)
  · replace hf := p_t c3 hf
    refine x_iconst hP dX12_telling_17 (v := (-1)) rfl ?_
    cases hf
    exact x_iret hP rfl dX12_telling_18
  · replace hf := p_f c3 hf
    refine x_iload_n hP dX12_telling_8 rfl ?_
    refine x_iconst hP dX12_telling_9 (v := 0) rfl ?_
    refine x_iconst hP dX12_telling_10 (v := 1) rfl ?_
    obtain ⟨v5, hc4, hf⟩ := b_bd hf
    refine y_csi hP oX12_in lX12_334 [.int x2, .int (0 : Int32), .int (1 : Int32)] [] rfl rfl rfl dX12_telling_11 (t_X12_in (d := d - 1) (by omega) hc4) (by omega) ?_
    refine x_if_ne hP dX12_telling_14 (tgt := 19) (by decide) (fun c6 => ?_) (fun c6 => ?_)
    · replace hf := p_f c6 hf
      refine x_aload_n hP dX12_telling_19 rfl ?_
      refine x_iload_n hP dX12_telling_20 rfl ?_
      obtain ⟨v8, hc7, hf⟩ := b_bd hf
      refine y_cvi hP oX12_isOut lX12_420 [.int x1] [] rfl rfl rfl lay67 dX12_telling_21 (t_X12_isOut (d := d - 1) (by omega) hc7) (by omega) ?_
      refine x_if_ne hP dX12_telling_24 (tgt := 30) (by decide) (fun c9 => ?_) (fun c9 => ?_)
      · replace hf := p_f c9 hf
        refine x_aload_n hP dX12_telling_30 rfl ?_
        obtain ⟨M11, hc10, hf⟩ := b_bd hf
        refine y_cvv hP oX12_copies lX12_347 [] [] rfl rfl rfl lay67 dX12_telling_31 (t_X12_copies (d := d - 1) (by omega) hc10) (by omega) ?_
        refine x_bipush hP dX12_telling_34 (v := (-2)) rfl ?_
        refine x_istore_n hP (ls2 := [some (.ref 67), some (.int x1), some (.int x2), some (.int (-2 : Int32)), none]) dX12_telling_36 rfl rfl rfl ?_
        refine x_iconst hP dX12_telling_37 (v := 0) rfl ?_
        refine x_istore hP (ls2 := [some (.ref 67), some (.int x1), some (.int x2), some (.int (-2 : Int32)), some (.int (0 : Int32))]) dX12_telling_38 rfl rfl ?_
        refine x_drop hP [some (.ref 67), some (.int x1), some (.int x2), some (.int (-2 : Int32)), some (.int (0 : Int32))] (And.intro rfl (And.intro rfl (And.intro rfl (And.intro rfl (And.intro rfl trivial))))) ?_
        obtain ⟨t23, hl24, hf⟩ := b_bd hf
        refine t_X12_telling_L40 hd hP _ _ _ _ _ _ _ hl24 ?_
        refine x_iload_n hP dX12_telling_83 rfl ?_
        refine x_if_lt hP dX12_telling_84 (tgt := 91) (by decide) (fun c25 => ?_) (fun c25 => ?_)
        · replace hf := p_t c25 hf
          refine x_iload_n hP dX12_telling_91 rfl ?_
          refine x_goto hP dX12_telling_92 (tgt := 101) (by decide) ?_
          cases hf
          exact x_iret hP rfl dX12_telling_101
        · replace hf := p_f c25 hf
          refine x_iload_n hP dX12_telling_87 rfl ?_
          refine x_if_ne hP dX12_telling_88 (tgt := 95) (by decide) (fun c26 => ?_) (fun c26 => ?_)
          · replace hf := p_f c26 hf
            refine x_aload_n hP dX12_telling_95 rfl ?_
            refine x_iload_n hP dX12_telling_96 rfl ?_
            refine x_iload_n hP dX12_telling_97 rfl ?_
            obtain ⟨t28, hc27, hf⟩ := b_bd hf
            refine y_cvi hP oX12_glowBy lX12_441 [.int x1, .int t23.1] [] rfl rfl rfl lay67 dX12_telling_98 (t_X12_glowBy (d := d - 1) (by omega) hc27) (by omega) ?_
            cases hf
            exact x_iret hP rfl dX12_telling_101
          · replace hf := p_t c26 hf
            refine x_iload_n hP dX12_telling_91 rfl ?_
            refine x_goto hP dX12_telling_92 (tgt := 101) (by decide) ?_
            cases hf
            exact x_iret hP rfl dX12_telling_101
      · replace hf := p_t c9 hf
        refine x_bipush hP dX12_telling_27 (v := (-2)) rfl ?_
        cases hf
        exact x_iret hP rfl dX12_telling_29
    · replace hf := p_t c6 hf
      refine x_iconst hP dX12_telling_17 (v := (-1)) rfl ?_
      cases hf
      exact x_iret hP rfl dX12_telling_18
def f_X12_firstOut_L2 (k : Unit → Option (Int32)) : Nat → Int32 → Mem → Option (Int32)
  | 0, _, _ => none
  | fu + 1, l1, M =>
    (ag M 82 2 (M.1 67 18)).bind fun v1 =>
    if v1 ≤ l1 then
      k ()
    else
      (f_X12_isOut l1 M).bind fun v4 =>
      if v4 = 0 then
        lt (l1 + 1 : Int32) fun v6 =>
        f_X12_firstOut_L2 k fu v6 M
      else
        some l1
def f_X12_firstOut (M : Mem) : Option (Int32) :=
  f_X12_firstOut_L2 (fun t7 =>
      some (-1 : Int32)
    ) FU (0 : Int32) M
set_option maxHeartbeats 1000000 in
set_option maxRecDepth 20000 in
theorem t_X12_firstOut_L2 {g : GG} {d : Nat} {P : PT} {M : Mem} {r : Int32} (hd : 4 ≤ d)   (hP : IsM g iX12_firstOut d (some (some (.int r), LAY, M)) P) {k : Unit → Option (Int32)} (hk : ∀ t : Unit, k t = some r → P 31 [none, none] [] LAY M) : ∀ (fu : Nat) (l1 : Int32), f_X12_firstOut_L2 k fu l1 M = some r → P 2 [some (.ref 67), some (.int l1)] [] LAY M := by
  have hd1 : 1 ≤ d := by omega
  intro fu
  induction fu with
  | zero => intro l1 hf; simp [f_X12_firstOut_L2] at hf
  | succ fu ih =>
    intro l1 hf
    rw [f_X12_firstOut_L2] at hf
    refine x_iload_n hP dX12_firstOut_2 rfl ?_
    refine x_aload_n hP dX12_firstOut_3 rfl ?_
    refine x_getA hP fX12_61 lay67 (r := 82) rfl dX12_firstOut_4 ?_
    refine x_aload_n hP dX12_firstOut_7 rfl ?_
    refine x_getI hP fX12_251 lay67 dX12_firstOut_8 ?_
    obtain ⟨v1, hiv1, hv1, hf⟩ := b_ag hf
    refine y_ald hP lay82 hiv1 hv1 dX12_firstOut_11 ?_
    refine x_icmp_ge hP dX12_firstOut_12 (tgt := 31) (by decide) (fun c2 => ?_) (fun c2 => ?_)
    · replace hf := p_t c2 hf
      refine x_drop hP [none, none] trivial ?_
      exact hk _ hf
    · replace hf := p_f c2 hf
      refine x_aload_n hP dX12_firstOut_15 rfl ?_
      refine x_iload_n hP dX12_firstOut_16 rfl ?_
      obtain ⟨v4, hc3, hf⟩ := b_bd hf
      refine y_cvi hP oX12_isOut lX12_420 [.int l1] [] rfl rfl rfl lay67 dX12_firstOut_17 (t_X12_isOut (d := d - 1) (by omega) hc3) (by omega) ?_
      refine x_if_eq hP dX12_firstOut_20 (tgt := 25) (by decide) (fun c5 => ?_) (fun c5 => ?_)
      · replace hf := p_t c5 hf
        obtain ⟨v6, hv6, hf⟩ := b_lt hf
        refine x_iinc hP (v := v6) (ls2 := [some (.ref 67), some (.int v6)]) dX12_firstOut_25 rfl (by rw [hv6]; rfl) rfl rfl ?_
        refine x_goto hP dX12_firstOut_28 (tgt := 2) (by decide) ?_
        refine x_drop hP [some (.ref 67), some (.int v6)] (And.intro rfl (And.intro rfl trivial)) ?_
        exact ih _ hf
      · replace hf := p_f c5 hf
        refine x_iload_n hP dX12_firstOut_23 rfl ?_
        cases hf
        exact x_iret hP rfl dX12_firstOut_24
set_option maxHeartbeats 1000000 in
set_option maxRecDepth 20000 in
theorem t_X12_firstOut {g : GG} {d : Nat} (hd : 4 ≤ d) {M : Mem} {r : Int32} (hf : f_X12_firstOut M = some r) : ExM g d iX12_firstOut [.ref 67] LAY M (some (.int r), LAY, M) := by
  have hd1 : 1 ≤ d := by omega
  refine ExM.main pnX12 rfl (ls := [some (.ref 67), none]) rfl ?_
  intro P hP
  rw [f_X12_firstOut] at hf
  refine x_iconst hP dX12_firstOut_0 (v := 0) rfl ?_
  refine x_istore_n hP (ls2 := [some (.ref 67), some (.int (0 : Int32))]) dX12_firstOut_1 rfl rfl rfl ?_
  refine x_drop hP [some (.ref 67), some (.int (0 : Int32))] (And.intro rfl (And.intro rfl trivial)) ?_
  refine t_X12_firstOut_L2 hd hP (fun t7 hf => ?_) _ _ hf
  refine x_iconst hP dX12_firstOut_31 (v := (-1)) rfl ?_
  cases hf
  exact x_iret hP rfl dX12_firstOut_32
def f_X12_keepBy (x1 : Int32) (M : Mem) : Option (Int32 × Mem) :=
  (ag M 104 48 ((36 : Int32) + x1)).bind fun v1 =>
  (f_X12_firstOut M).bind fun v3 =>
  (f_X12_wearsOf v3 x1 M).bind fun t5 =>
  some (v1 - t5.1, t5.2)
set_option maxHeartbeats 1000000 in
set_option maxRecDepth 20000 in
theorem t_X12_keepBy {g : GG} {d : Nat} (hd : 5 ≤ d) {x1 : Int32} {M : Mem} {r : Int32} {M' : Mem} (hf : f_X12_keepBy x1 M = some (r, M')) : ExM g d iX12_keepBy [.ref 67, .int x1] LAY M (some (.int r), LAY, M') := by
  have hd1 : 1 ≤ d := by omega
  refine ExM.main pnX12 rfl (ls := [some (.ref 67), some (.int x1)]) rfl ?_
  intro P hP
  rw [f_X12_keepBy] at hf
  refine x_aload_n hP dX12_keepBy_0 rfl ?_
  refine x_getA hP fX12_128 lay67 (r := 104) rfl dX12_keepBy_1 ?_
  refine x_bipush hP dX12_keepBy_4 (v := 36) rfl ?_
  refine x_iload_n hP dX12_keepBy_6 rfl ?_
  refine x_iadd hP dX12_keepBy_7 ?_
  obtain ⟨v1, hiv1, hv1, hf⟩ := b_ag hf
  refine y_ald hP lay104 hiv1 hv1 dX12_keepBy_8 ?_
  refine x_aload_n hP dX12_keepBy_9 rfl ?_
  refine x_aload_n hP dX12_keepBy_10 rfl ?_
  obtain ⟨v3, hc2, hf⟩ := b_bd hf
  refine y_cvi hP oX12_firstOut lX12_444 [] [.ref 67, .int v1] rfl rfl rfl lay67 dX12_keepBy_11 (t_X12_firstOut (d := d - 1) (by omega) hc2) (by omega) ?_
  refine x_iload_n hP dX12_keepBy_14 rfl ?_
  obtain ⟨t5, hc4, hf⟩ := b_bd hf
  refine y_cvi hP oX12_wearsOf lX12_373 [.int v3, .int x1] [.int v1] rfl rfl rfl lay67 dX12_keepBy_15 (t_X12_wearsOf (d := d - 1) (by omega) hc4) (by omega) ?_
  refine x_isub hP dX12_keepBy_18 ?_
  cases hf
  exact x_iret hP rfl dX12_keepBy_19
def f_X12_keep_L9 : Nat → Int32 → Int32 → Mem → Option (Int32 × Mem)
  | 0, _, _, _ => none
  | fu + 1, l1, l2, M =>
    (ag M 86 2 (M.1 67 18)).bind fun v3 =>
    if v3 ≤ l2 then
      some (l1, M)
    else
      (f_X12_firstOut M).bind fun v6 =>
      if v6 < 0 then
        some (l1, M)
      else
        if l1 < 0 then
          lt (l2 + 1 : Int32) fun v9 =>
          f_X12_keep_L9 fu l2 v9 M
        else
          (f_X12_keepBy l2 M).bind fun t11 =>
          (f_X12_keepBy l1 t11.2).bind fun t13 =>
          if t11.1 ≤ t13.1 then
            lt (l2 + 1 : Int32) fun v15 =>
            f_X12_keep_L9 fu l1 v15 t13.2
          else
            lt (l2 + 1 : Int32) fun v16 =>
            f_X12_keep_L9 fu l2 v16 t13.2
def f_X12_keep (M : Mem) : Option (Int32 × Mem) :=
  (f_X12_copies M).bind fun M2 =>
  (f_X12_keep_L9 FU (-2 : Int32) (0 : Int32) M2).bind fun t17 =>
  some (t17.1, t17.2)
set_option maxHeartbeats 1000000 in
set_option maxRecDepth 20000 in
theorem t_X12_keep_L9 {g : GG} {d : Nat} {P : PT} {res : Option RS} (hd : 6 ≤ d)  (hP : IsM g iX12_keep d res P) : ∀ (fu : Nat) (l1 : Int32) (l2 : Int32) (M : Mem) (t : Int32 × Mem), f_X12_keep_L9 fu l1 l2 M = some t → P 54 [none, some (.int t.1), none] [] LAY t.2 → P 9 [some (.ref 67), some (.int l1), some (.int l2)] [] LAY M := by
  have hd1 : 1 ≤ d := by omega
  intro fu
  induction fu with
  | zero => intro l1 l2 M t hf; simp [f_X12_keep_L9] at hf
  | succ fu ih =>
    intro l1 l2 M t hf hx
    rw [f_X12_keep_L9] at hf
    refine x_iload_n hP dX12_keep_9 rfl ?_
    refine x_aload_n hP dX12_keep_10 rfl ?_
    refine x_getA hP fX12_73 lay67 (r := 86) rfl dX12_keep_11 ?_
    refine x_aload_n hP dX12_keep_14 rfl ?_
    refine x_getI hP fX12_251 lay67 dX12_keep_15 ?_
    obtain ⟨v3, hiv3, hv3, hf⟩ := b_ag hf
    refine y_ald hP lay86 hiv3 hv3 dX12_keep_18 ?_
    refine x_icmp_ge hP dX12_keep_19 (tgt := 54) (by decide) (fun c4 => ?_) (fun c4 => ?_)
    · replace hf := p_t c4 hf
      refine x_drop hP [none, some (.int l1), none] (And.intro rfl trivial) ?_
      cases hf
      exact hx
    · replace hf := p_f c4 hf
      refine x_aload_n hP dX12_keep_22 rfl ?_
      obtain ⟨v6, hc5, hf⟩ := b_bd hf
      refine y_cvi hP oX12_firstOut lX12_444 [] [] rfl rfl rfl lay67 dX12_keep_23 (t_X12_firstOut (d := d - 1) (by omega) hc5) (by omega) ?_
      refine x_if_lt hP dX12_keep_26 (tgt := 54) (by decide) (fun c7 => ?_) (fun c7 => ?_)
      · replace hf := p_t c7 hf
        refine x_drop hP [none, some (.int l1), none] (And.intro rfl trivial) ?_
        cases hf
        exact hx
      · replace hf := p_f c7 hf
        refine x_iload_n hP dX12_keep_29 rfl ?_
        refine x_if_lt hP dX12_keep_30 (tgt := 46) (by decide) (fun c8 => ?_) (fun c8 => ?_)
        · replace hf := p_t c8 hf
          refine x_iload_n hP dX12_keep_46 rfl ?_
          refine x_istore_n hP (ls2 := [some (.ref 67), some (.int l2), some (.int l2)]) dX12_keep_47 rfl rfl rfl ?_
          obtain ⟨v9, hv9, hf⟩ := b_lt hf
          refine x_iinc hP (v := v9) (ls2 := [some (.ref 67), some (.int l2), some (.int v9)]) dX12_keep_48 rfl (by rw [hv9]; rfl) rfl rfl ?_
          refine x_goto hP dX12_keep_51 (tgt := 9) (by decide) ?_
          refine x_drop hP [some (.ref 67), some (.int l2), some (.int v9)] (And.intro rfl (And.intro rfl (And.intro rfl trivial))) ?_
          exact ih _ _ _ _ hf hx
        · replace hf := p_f c8 hf
          refine x_aload_n hP dX12_keep_33 rfl ?_
          refine x_iload_n hP dX12_keep_34 rfl ?_
          obtain ⟨t11, hc10, hf⟩ := b_bd hf
          refine y_cvi hP oX12_keepBy lX12_447 [.int l2] [] rfl rfl rfl lay67 dX12_keep_35 (t_X12_keepBy (d := d - 1) (by omega) hc10) (by omega) ?_
          refine x_aload_n hP dX12_keep_38 rfl ?_
          refine x_iload_n hP dX12_keep_39 rfl ?_
          obtain ⟨t13, hc12, hf⟩ := b_bd hf
          refine y_cvi hP oX12_keepBy lX12_447 [.int l1] [.int t11.1] rfl rfl rfl lay67 dX12_keep_40 (t_X12_keepBy (d := d - 1) (by omega) hc12) (by omega) ?_
          refine x_icmp_le hP dX12_keep_43 (tgt := 48) (by decide) (fun c14 => ?_) (fun c14 => ?_)
          · replace hf := p_t c14 hf
            obtain ⟨v15, hv15, hf⟩ := b_lt hf
            refine x_iinc hP (v := v15) (ls2 := [some (.ref 67), some (.int l1), some (.int v15)]) dX12_keep_48 rfl (by rw [hv15]; rfl) rfl rfl ?_
            refine x_goto hP dX12_keep_51 (tgt := 9) (by decide) ?_
            refine x_drop hP [some (.ref 67), some (.int l1), some (.int v15)] (And.intro rfl (And.intro rfl (And.intro rfl trivial))) ?_
            exact ih _ _ _ _ hf hx
          · replace hf := p_f c14 hf
            refine x_iload_n hP dX12_keep_46 rfl ?_
            refine x_istore_n hP (ls2 := [some (.ref 67), some (.int l2), some (.int l2)]) dX12_keep_47 rfl rfl rfl ?_
            obtain ⟨v16, hv16, hf⟩ := b_lt hf
            refine x_iinc hP (v := v16) (ls2 := [some (.ref 67), some (.int l2), some (.int v16)]) dX12_keep_48 rfl (by rw [hv16]; rfl) rfl rfl ?_
            refine x_goto hP dX12_keep_51 (tgt := 9) (by decide) ?_
            refine x_drop hP [some (.ref 67), some (.int l2), some (.int v16)] (And.intro rfl (And.intro rfl (And.intro rfl trivial))) ?_
            exact ih _ _ _ _ hf hx
set_option maxHeartbeats 1000000 in
set_option maxRecDepth 20000 in
theorem t_X12_keep {g : GG} {d : Nat} (hd : 6 ≤ d) {M : Mem} {r : Int32} {M' : Mem} (hf : f_X12_keep M = some (r, M')) : ExM g d iX12_keep [.ref 67] LAY M (some (.int r), LAY, M') := by
  have hd1 : 1 ≤ d := by omega
  refine ExM.main pnX12 rfl (ls := [some (.ref 67), none, none]) rfl ?_
  intro P hP
  rw [f_X12_keep] at hf
  refine x_aload_n hP dX12_keep_0 rfl ?_
  obtain ⟨M2, hc1, hf⟩ := b_bd hf
  refine y_cvv hP oX12_copies lX12_347 [] [] rfl rfl rfl lay67 dX12_keep_1 (t_X12_copies (d := d - 1) (by omega) hc1) (by omega) ?_
  refine x_bipush hP dX12_keep_4 (v := (-2)) rfl ?_
  refine x_istore_n hP (ls2 := [some (.ref 67), some (.int (-2 : Int32)), none]) dX12_keep_6 rfl rfl rfl ?_
  refine x_iconst hP dX12_keep_7 (v := 0) rfl ?_
  refine x_istore_n hP (ls2 := [some (.ref 67), some (.int (-2 : Int32)), some (.int (0 : Int32))]) dX12_keep_8 rfl rfl rfl ?_
  refine x_drop hP [some (.ref 67), some (.int (-2 : Int32)), some (.int (0 : Int32))] (And.intro rfl (And.intro rfl (And.intro rfl trivial))) ?_
  obtain ⟨t17, hl18, hf⟩ := b_bd hf
  refine t_X12_keep_L9 hd hP _ _ _ _ _ hl18 ?_
  refine x_iload_n hP dX12_keep_54 rfl ?_
  cases hf
  exact x_iret hP rfl dX12_keep_55
def f_X12_twins_L64 : Nat → Int32 → Int32 → Int32 → Int32 → Int32 → Int32 → Int32 → Mem → Option (Int32 × Mem)
  | 0, _, _, _, _, _, _, _, _ => none
  | fu + 1, l1, l2, l3, l4, l5, l6, l7, M =>
    (ag M 82 2 (M.1 67 18)).bind fun v11 =>
    if v11 ≤ l7 then
      some (l6, M)
    else
      (f_X12_glowsOf l7 l4 M).bind fun t14 =>
      (f_X12_glowsOf l7 l5 t14.2).bind fun t16 =>
      lt (t14.1 - t16.1 : Int32) fun v17 =>
      (f_X12_isOut l7 t16.2).bind fun v19 =>
      if v19 = 0 then
        lt (l7 + 1 : Int32) fun v21 =>
        f_X12_twins_L64 fu l1 l2 l3 l4 l5 l6 v21 t16.2
      else
        lt (
          if 0 ≤ v17 then
            v17
          else
            -v17
         : Int32) fun t22 =>
        lt (l6 + t22 : Int32) fun v24 =>
        lt (l7 + 1 : Int32) fun v25 =>
        f_X12_twins_L64 fu l1 l2 l3 l4 l5 v24 v25 t16.2
def f_X12_twins_L44 : Nat → Int32 → Int32 → Int32 → Int32 → Int32 → Mem → Option (Int32 × Int32 × Mem)
  | 0, _, _, _, _, _, _ => none
  | fu + 1, l1, l2, l3, l4, l5, M =>
    (ag M 86 2 (M.1 67 18)).bind fun v9 =>
    if v9 ≤ l5 then
      some (l2, l3, M)
    else
      (f_X12_twins_L64 FU l1 l2 l3 l4 l5 (0 : Int32) (0 : Int32) M).bind fun t26 =>
      if l2 < 0 then
        lt (((10 : Int32) * l4) + l5 : Int32) fun v29 =>
        lt (l5 + 1 : Int32) fun v30 =>
        f_X12_twins_L44 fu l1 v29 t26.1 l4 v30 t26.2
      else
        if t26.1 < l3 then
          lt (((10 : Int32) * l4) + l5 : Int32) fun v32 =>
          lt (l5 + 1 : Int32) fun v33 =>
          f_X12_twins_L44 fu l1 v32 t26.1 l4 v33 t26.2
        else
          lt (l5 + 1 : Int32) fun v34 =>
          f_X12_twins_L44 fu l1 l2 l3 l4 v34 t26.2
def f_X12_twins_L24 : Nat → Int32 → Int32 → Int32 → Int32 → Mem → Option (Int32 × Int32 × Mem)
  | 0, _, _, _, _, _ => none
  | fu + 1, l1, l2, l3, l4, M =>
    (ag M 86 2 (M.1 67 18)).bind fun v6 =>
    if v6 ≤ l4 then
      some (l2, l3, M)
    else
      lt (l4 + (1 : Int32) : Int32) fun v8 =>
      (f_X12_twins_L44 FU l1 l2 l3 l4 v8 M).bind fun t35 =>
      lt (l4 + 1 : Int32) fun v37 =>
      f_X12_twins_L24 fu l1 t35.1 t35.2.1 v37 t35.2.2
def f_X12_twins (x1 : Int32) (M : Mem) : Option (Int32 × Mem) :=
  (f_X12_in x1 (0 : Int32) (1 : Int32)).bind fun v2 =>
  if v2 = 0 then
    some ((-1 : Int32), M)
  else
    (f_X12_copies M).bind fun M5 =>
    (f_X12_twins_L24 FU x1 (-2 : Int32) (-2 : Int32) (0 : Int32) M5).bind fun t38 =>
    if x1 = 0 then
      some (t38.1, t38.2.2)
    else
      some (t38.2.1, t38.2.2)
set_option maxHeartbeats 1000000 in
set_option maxRecDepth 20000 in
theorem t_X12_twins_L64 {g : GG} {d : Nat} {P : PT} {res : Option RS} (hd : 4 ≤ d)  (hP : IsM g iX12_twins d res P) : ∀ (fu : Nat) (l1 : Int32) (l2 : Int32) (l3 : Int32) (l4 : Int32) (l5 : Int32) (l6 : Int32) (l7 : Int32) (M : Mem) (t : Int32 × Mem), f_X12_twins_L64 fu l1 l2 l3 l4 l5 l6 l7 M = some t → P 130 [some (.ref 67), some (.int l1), some (.int l2), some (.int l3), some (.int l4), some (.int l5), some (.int t.1), none, none] [] LAY t.2 → P 64 [some (.ref 67), some (.int l1), some (.int l2), some (.int l3), some (.int l4), some (.int l5), some (.int l6), some (.int l7), none] [] LAY M := by
  have hd1 : 1 ≤ d := by omega
  intro fu
  induction fu with
  | zero => intro l1 l2 l3 l4 l5 l6 l7 M t hf; simp [f_X12_twins_L64] at hf
  | succ fu ih =>
    intro l1 l2 l3 l4 l5 l6 l7 M t hf hx
    rw [f_X12_twins_L64] at hf
    refine x_iload hP dX12_twins_64 rfl ?_
    refine x_aload_n hP dX12_twins_66 rfl ?_
    refine x_getA hP fX12_61 lay67 (r := 82) rfl dX12_twins_67 ?_
    refine x_aload_n hP dX12_twins_70 rfl ?_
    refine x_getI hP fX12_251 lay67 dX12_twins_71 ?_
    obtain ⟨v11, hiv11, hv11, hf⟩ := b_ag hf
    refine y_ald hP lay82 hiv11 hv11 dX12_twins_74 ?_
    refine x_icmp_ge hP dX12_twins_75 (tgt := 130) (by decide) (fun c12 => ?_) (fun c12 => ?_)
    · replace hf := p_t c12 hf
      refine x_drop hP [some (.ref 67), some (.int l1), some (.int l2), some (.int l3), some (.int l4), some (.int l5), some (.int l6), none, none] (And.intro rfl (And.intro rfl (And.intro rfl (And.intro rfl (And.intro rfl (And.intro rfl (And.intro rfl trivial))))))) ?_
      cases hf
      exact hx
    · replace hf := p_f c12 hf
      refine x_aload_n hP dX12_twins_78 rfl ?_
      refine x_iload hP dX12_twins_79 rfl ?_
      refine x_iload hP dX12_twins_81 rfl ?_
      obtain ⟨t14, hc13, hf⟩ := b_bd hf
      refine y_cvi hP oX12_glowsOf lX12_370 [.int l7, .int l4] [] rfl rfl rfl lay67 dX12_twins_83 (t_X12_glowsOf (d := d - 1) (by omega) hc13) (by omega) ?_
      refine x_aload_n hP dX12_twins_86 rfl ?_
      refine x_iload hP dX12_twins_87 rfl ?_
      refine x_iload hP dX12_twins_89 rfl ?_
      obtain ⟨t16, hc15, hf⟩ := b_bd hf
      refine y_cvi hP oX12_glowsOf lX12_370 [.int l7, .int l5] [.int t14.1] rfl rfl rfl lay67 dX12_twins_91 (t_X12_glowsOf (d := d - 1) (by omega) hc15) (by omega) ?_
      refine x_isub hP dX12_twins_94 ?_
      obtain ⟨v17, hv17, hf⟩ := b_lt hf
      refine y_nmI hv17 ?_
      refine x_istore hP (ls2 := [some (.ref 67), some (.int l1), some (.int l2), some (.int l3), some (.int l4), some (.int l5), some (.int l6), some (.int l7), some (.int v17)]) dX12_twins_95 rfl rfl ?_
      refine x_aload_n hP dX12_twins_97 rfl ?_
      refine x_iload hP dX12_twins_98 rfl ?_
      obtain ⟨v19, hc18, hf⟩ := b_bd hf
      refine y_cvi hP oX12_isOut lX12_420 [.int l7] [] rfl rfl rfl lay67 dX12_twins_100 (t_X12_isOut (d := d - 1) (by omega) hc18) (by omega) ?_
      refine x_if_eq hP dX12_twins_103 (tgt := 124) (by decide) (fun c20 => ?_) (fun c20 => ?_)
      · replace hf := p_t c20 hf
        obtain ⟨v21, hv21, hf⟩ := b_lt hf
        refine x_iinc hP (v := v21) (ls2 := [some (.ref 67), some (.int l1), some (.int l2), some (.int l3), some (.int l4), some (.int l5), some (.int l6), some (.int v21), some (.int v17)]) dX12_twins_124 rfl (by rw [hv21]; rfl) rfl rfl ?_
        refine x_goto hP dX12_twins_127 (tgt := 64) (by decide) ?_
        refine x_drop hP [some (.ref 67), some (.int l1), some (.int l2), some (.int l3), some (.int l4), some (.int l5), some (.int l6), some (.int v21), none] (And.intro rfl (And.intro rfl (And.intro rfl (And.intro rfl (And.intro rfl (And.intro rfl (And.intro rfl (And.intro rfl trivial)))))))) ?_
        exact ih _ _ _ _ _ _ _ _ _ hf hx
      · replace hf := p_f c20 hf
        refine x_iload hP dX12_twins_106 rfl ?_
        refine x_iload hP dX12_twins_108 rfl ?_
        obtain ⟨t22, het22, hf⟩ := b_lt hf
        have hj22 : P 121 [some (.ref 67), some (.int l1), some (.int l2), some (.int l3), some (.int l4), some (.int l5), none, some (.int l7), none] [.int t22, .int l6] LAY t16.2 := by
          refine x_iadd hP dX12_twins_121 ?_
          obtain ⟨v24, hv24, hf⟩ := b_lt hf
          refine y_nmI hv24 ?_
          refine x_istore hP (ls2 := [some (.ref 67), some (.int l1), some (.int l2), some (.int l3), some (.int l4), some (.int l5), some (.int v24), some (.int l7), none]) dX12_twins_122 rfl rfl ?_
          obtain ⟨v25, hv25, hf⟩ := b_lt hf
          refine x_iinc hP (v := v25) (ls2 := [some (.ref 67), some (.int l1), some (.int l2), some (.int l3), some (.int l4), some (.int l5), some (.int v24), some (.int v25), none]) dX12_twins_124 rfl (by rw [hv25]; rfl) rfl rfl ?_
          refine x_goto hP dX12_twins_127 (tgt := 64) (by decide) ?_
          refine x_drop hP [some (.ref 67), some (.int l1), some (.int l2), some (.int l3), some (.int l4), some (.int l5), some (.int v24), some (.int v25), none] (And.intro rfl (And.intro rfl (And.intro rfl (And.intro rfl (And.intro rfl (And.intro rfl (And.intro rfl (And.intro rfl trivial)))))))) ?_
          exact ih _ _ _ _ _ _ _ _ _ hf hx
        clear hf
        have hf := het22
        clear het22
        refine x_if_ge hP dX12_twins_110 (tgt := 119) (by decide) (fun c23 => ?_) (fun c23 => ?_)
        · replace hf := e_t c23 hf
          refine x_iload hP dX12_twins_119 rfl ?_
          refine x_drop hP [some (.ref 67), some (.int l1), some (.int l2), some (.int l3), some (.int l4), some (.int l5), none, some (.int l7), none] (And.intro rfl (And.intro rfl (And.intro rfl (And.intro rfl (And.intro rfl (And.intro rfl (And.intro rfl trivial))))))) ?_
          subst hf
          exact hj22
        · replace hf := e_f c23 hf
          refine x_iload hP dX12_twins_113 rfl ?_
          refine x_ineg hP dX12_twins_115 ?_
          refine x_goto hP dX12_twins_116 (tgt := 121) (by decide) ?_
          refine x_drop hP [some (.ref 67), some (.int l1), some (.int l2), some (.int l3), some (.int l4), some (.int l5), none, some (.int l7), none] (And.intro rfl (And.intro rfl (And.intro rfl (And.intro rfl (And.intro rfl (And.intro rfl (And.intro rfl trivial))))))) ?_
          subst hf
          exact hj22
set_option maxHeartbeats 1000000 in
set_option maxRecDepth 20000 in
theorem t_X12_twins_L44 {g : GG} {d : Nat} {P : PT} {res : Option RS} (hd : 4 ≤ d)  (hP : IsM g iX12_twins d res P) : ∀ (fu : Nat) (l1 : Int32) (l2 : Int32) (l3 : Int32) (l4 : Int32) (l5 : Int32) (M : Mem) (t : Int32 × Int32 × Mem), f_X12_twins_L44 fu l1 l2 l3 l4 l5 M = some t → P 161 [some (.ref 67), some (.int l1), some (.int t.1), some (.int t.2.1), some (.int l4), none, none, none, none] [] LAY t.2.2 → P 44 [some (.ref 67), some (.int l1), some (.int l2), some (.int l3), some (.int l4), some (.int l5), none, none, none] [] LAY M := by
  have hd1 : 1 ≤ d := by omega
  intro fu
  induction fu with
  | zero => intro l1 l2 l3 l4 l5 M t hf; simp [f_X12_twins_L44] at hf
  | succ fu ih =>
    intro l1 l2 l3 l4 l5 M t hf hx
    rw [f_X12_twins_L44] at hf
    refine x_iload hP dX12_twins_44 rfl ?_
    refine x_aload_n hP dX12_twins_46 rfl ?_
    refine x_getA hP fX12_73 lay67 (r := 86) rfl dX12_twins_47 ?_
    refine x_aload_n hP dX12_twins_50 rfl ?_
    refine x_getI hP fX12_251 lay67 dX12_twins_51 ?_
    obtain ⟨v9, hiv9, hv9, hf⟩ := b_ag hf
    refine y_ald hP lay86 hiv9 hv9 dX12_twins_54 ?_
    refine x_icmp_ge hP dX12_twins_55 (tgt := 161) (by decide) (fun c10 => ?_) (fun c10 => ?_)
    · replace hf := p_t c10 hf
      refine x_drop hP [some (.ref 67), some (.int l1), some (.int l2), some (.int l3), some (.int l4), none, none, none, none] (And.intro rfl (And.intro rfl (And.intro rfl (And.intro rfl (And.intro rfl trivial))))) ?_
      cases hf
      exact hx
    · replace hf := p_f c10 hf
      refine x_iconst hP dX12_twins_58 (v := 0) rfl ?_
      refine x_istore hP (ls2 := [some (.ref 67), some (.int l1), some (.int l2), some (.int l3), some (.int l4), some (.int l5), some (.int (0 : Int32)), none, none]) dX12_twins_59 rfl rfl ?_
      refine x_iconst hP dX12_twins_61 (v := 0) rfl ?_
      refine x_istore hP (ls2 := [some (.ref 67), some (.int l1), some (.int l2), some (.int l3), some (.int l4), some (.int l5), some (.int (0 : Int32)), some (.int (0 : Int32)), none]) dX12_twins_62 rfl rfl ?_
      refine x_drop hP [some (.ref 67), some (.int l1), some (.int l2), some (.int l3), some (.int l4), some (.int l5), some (.int (0 : Int32)), some (.int (0 : Int32)), none] (And.intro rfl (And.intro rfl (And.intro rfl (And.intro rfl (And.intro rfl (And.intro rfl (And.intro rfl (And.intro rfl trivial)))))))) ?_
      obtain ⟨t26, hl27, hf⟩ := b_bd hf
      refine t_X12_twins_L64 hd hP _ _ _ _ _ _ _ _ _ _ hl27 ?_
      refine x_iload_n hP dX12_twins_130 rfl ?_
      refine x_if_lt hP dX12_twins_131 (tgt := 143) (by decide) (fun c28 => ?_) (fun c28 => ?_)
      · replace hf := p_t c28 hf
        refine x_bipush hP dX12_twins_143 (v := 10) rfl ?_
        refine x_iload hP dX12_twins_145 rfl ?_
        refine x_imul hP dX12_twins_147 ?_
        refine x_iload hP dX12_twins_148 rfl ?_
        refine x_iadd hP dX12_twins_150 ?_
        obtain ⟨v29, hv29, hf⟩ := b_lt hf
        refine y_nmI hv29 ?_
        refine x_istore_n hP (ls2 := [some (.ref 67), some (.int l1), some (.int v29), some (.int l3), some (.int l4), some (.int l5), some (.int t26.1), none, none]) dX12_twins_151 rfl rfl rfl ?_
        refine x_iload hP dX12_twins_152 rfl ?_
        refine x_istore_n hP (ls2 := [some (.ref 67), some (.int l1), some (.int v29), some (.int t26.1), some (.int l4), some (.int l5), some (.int t26.1), none, none]) dX12_twins_154 rfl rfl rfl ?_
        obtain ⟨v30, hv30, hf⟩ := b_lt hf
        refine x_iinc hP (v := v30) (ls2 := [some (.ref 67), some (.int l1), some (.int v29), some (.int t26.1), some (.int l4), some (.int v30), some (.int t26.1), none, none]) dX12_twins_155 rfl (by rw [hv30]; rfl) rfl rfl ?_
        refine x_goto hP dX12_twins_158 (tgt := 44) (by decide) ?_
        refine x_drop hP [some (.ref 67), some (.int l1), some (.int v29), some (.int t26.1), some (.int l4), some (.int v30), none, none, none] (And.intro rfl (And.intro rfl (And.intro rfl (And.intro rfl (And.intro rfl (And.intro rfl trivial)))))) ?_
        exact ih _ _ _ _ _ _ _ hf hx
      · replace hf := p_f c28 hf
        refine x_iload hP dX12_twins_134 rfl ?_
        refine x_iload_n hP dX12_twins_136 rfl ?_
        refine x_icmp_lt hP dX12_twins_137 (tgt := 143) (by decide) (fun c31 => ?_) (fun c31 => ?_)
        · replace hf := p_t c31 hf
          refine x_bipush hP dX12_twins_143 (v := 10) rfl ?_
          refine x_iload hP dX12_twins_145 rfl ?_
          refine x_imul hP dX12_twins_147 ?_
          refine x_iload hP dX12_twins_148 rfl ?_
          refine x_iadd hP dX12_twins_150 ?_
          obtain ⟨v32, hv32, hf⟩ := b_lt hf
          refine y_nmI hv32 ?_
          refine x_istore_n hP (ls2 := [some (.ref 67), some (.int l1), some (.int v32), some (.int l3), some (.int l4), some (.int l5), some (.int t26.1), none, none]) dX12_twins_151 rfl rfl rfl ?_
          refine x_iload hP dX12_twins_152 rfl ?_
          refine x_istore_n hP (ls2 := [some (.ref 67), some (.int l1), some (.int v32), some (.int t26.1), some (.int l4), some (.int l5), some (.int t26.1), none, none]) dX12_twins_154 rfl rfl rfl ?_
          obtain ⟨v33, hv33, hf⟩ := b_lt hf
          refine x_iinc hP (v := v33) (ls2 := [some (.ref 67), some (.int l1), some (.int v32), some (.int t26.1), some (.int l4), some (.int v33), some (.int t26.1), none, none]) dX12_twins_155 rfl (by rw [hv33]; rfl) rfl rfl ?_
          refine x_goto hP dX12_twins_158 (tgt := 44) (by decide) ?_
          refine x_drop hP [some (.ref 67), some (.int l1), some (.int v32), some (.int t26.1), some (.int l4), some (.int v33), none, none, none] (And.intro rfl (And.intro rfl (And.intro rfl (And.intro rfl (And.intro rfl (And.intro rfl trivial)))))) ?_
          exact ih _ _ _ _ _ _ _ hf hx
        · replace hf := p_f c31 hf
          refine x_goto hP dX12_twins_140 (tgt := 155) (by decide) ?_
          obtain ⟨v34, hv34, hf⟩ := b_lt hf
          refine x_iinc hP (v := v34) (ls2 := [some (.ref 67), some (.int l1), some (.int l2), some (.int l3), some (.int l4), some (.int v34), some (.int t26.1), none, none]) dX12_twins_155 rfl (by rw [hv34]; rfl) rfl rfl ?_
          refine x_goto hP dX12_twins_158 (tgt := 44) (by decide) ?_
          refine x_drop hP [some (.ref 67), some (.int l1), some (.int l2), some (.int l3), some (.int l4), some (.int v34), none, none, none] (And.intro rfl (And.intro rfl (And.intro rfl (And.intro rfl (And.intro rfl (And.intro rfl trivial)))))) ?_
          exact ih _ _ _ _ _ _ _ hf hx
set_option maxHeartbeats 1000000 in
set_option maxRecDepth 20000 in
theorem t_X12_twins_L24 {g : GG} {d : Nat} {P : PT} {res : Option RS} (hd : 4 ≤ d)  (hP : IsM g iX12_twins d res P) : ∀ (fu : Nat) (l1 : Int32) (l2 : Int32) (l3 : Int32) (l4 : Int32) (M : Mem) (t : Int32 × Int32 × Mem), f_X12_twins_L24 fu l1 l2 l3 l4 M = some t → P 167 [none, some (.int l1), some (.int t.1), some (.int t.2.1), none, none, none, none, none] [] LAY t.2.2 → P 24 [some (.ref 67), some (.int l1), some (.int l2), some (.int l3), some (.int l4), none, none, none, none] [] LAY M := by
  have hd1 : 1 ≤ d := by omega
  intro fu
  induction fu with
  | zero => intro l1 l2 l3 l4 M t hf; simp [f_X12_twins_L24] at hf
  | succ fu ih =>
    intro l1 l2 l3 l4 M t hf hx
    rw [f_X12_twins_L24] at hf
    refine x_iload hP dX12_twins_24 rfl ?_
    refine x_aload_n hP dX12_twins_26 rfl ?_
    refine x_getA hP fX12_73 lay67 (r := 86) rfl dX12_twins_27 ?_
    refine x_aload_n hP dX12_twins_30 rfl ?_
    refine x_getI hP fX12_251 lay67 dX12_twins_31 ?_
    obtain ⟨v6, hiv6, hv6, hf⟩ := b_ag hf
    refine y_ald hP lay86 hiv6 hv6 dX12_twins_34 ?_
    refine x_icmp_ge hP dX12_twins_35 (tgt := 167) (by decide) (fun c7 => ?_) (fun c7 => ?_)
    · replace hf := p_t c7 hf
      refine x_drop hP [none, some (.int l1), some (.int l2), some (.int l3), none, none, none, none, none] (And.intro rfl (And.intro rfl (And.intro rfl trivial))) ?_
      cases hf
      exact hx
    · replace hf := p_f c7 hf
      refine x_iload hP dX12_twins_38 rfl ?_
      refine x_iconst hP dX12_twins_40 (v := 1) rfl ?_
      refine x_iadd hP dX12_twins_41 ?_
      obtain ⟨v8, hv8, hf⟩ := b_lt hf
      refine y_nmI hv8 ?_
      refine x_istore hP (ls2 := [some (.ref 67), some (.int l1), some (.int l2), some (.int l3), some (.int l4), some (.int v8), none, none, none]) dX12_twins_42 rfl rfl ?_
      refine x_drop hP [some (.ref 67), some (.int l1), some (.int l2), some (.int l3), some (.int l4), some (.int v8), none, none, none] (And.intro rfl (And.intro rfl (And.intro rfl (And.intro rfl (And.intro rfl (And.intro rfl trivial)))))) ?_
      obtain ⟨t35, hl36, hf⟩ := b_bd hf
      refine t_X12_twins_L44 hd hP _ _ _ _ _ _ _ _ hl36 ?_
      obtain ⟨v37, hv37, hf⟩ := b_lt hf
      refine x_iinc hP (v := v37) (ls2 := [some (.ref 67), some (.int l1), some (.int t35.1), some (.int t35.2.1), some (.int v37), none, none, none, none]) dX12_twins_161 rfl (by rw [hv37]; rfl) rfl rfl ?_
      refine x_goto hP dX12_twins_164 (tgt := 24) (by decide) ?_
      refine x_drop hP [some (.ref 67), some (.int l1), some (.int t35.1), some (.int t35.2.1), some (.int v37), none, none, none, none] (And.intro rfl (And.intro rfl (And.intro rfl (And.intro rfl (And.intro rfl trivial))))) ?_
      exact ih _ _ _ _ _ _ hf hx
set_option maxHeartbeats 1000000 in
set_option maxRecDepth 20000 in
theorem t_X12_twins {g : GG} {d : Nat} (hd : 4 ≤ d) {x1 : Int32} {M : Mem} {r : Int32} {M' : Mem} (hf : f_X12_twins x1 M = some (r, M')) : ExM g d iX12_twins [.ref 67, .int x1] LAY M (some (.int r), LAY, M') := by
  have hd1 : 1 ≤ d := by omega
  refine ExM.main pnX12 rfl (ls := [some (.ref 67), some (.int x1), none, none, none, none, none, none, none]) rfl ?_
  intro P hP
  rw [f_X12_twins] at hf
  refine x_iload_n hP dX12_twins_0 rfl ?_
  refine x_iconst hP dX12_twins_1 (v := 0) rfl ?_
  refine x_iconst hP dX12_twins_2 (v := 1) rfl ?_
  obtain ⟨v2, hc1, hf⟩ := b_bd hf
  refine y_csi hP oX12_in lX12_334 [.int x1, .int (0 : Int32), .int (1 : Int32)] [] rfl rfl rfl dX12_twins_3 (t_X12_in (d := d - 1) (by omega) hc1) (by omega) ?_
  refine x_if_ne hP dX12_twins_6 (tgt := 11) (by decide) (fun c3 => ?_) (fun c3 => ?_)
  · replace hf := p_f c3 hf
    refine x_aload_n hP dX12_twins_11 rfl ?_
    obtain ⟨M5, hc4, hf⟩ := b_bd hf
    refine y_cvv hP oX12_copies lX12_347 [] [] rfl rfl rfl lay67 dX12_twins_12 (t_X12_copies (d := d - 1) (by omega) hc4) (by omega) ?_
    refine x_bipush hP dX12_twins_15 (v := (-2)) rfl ?_
    refine x_istore_n hP (ls2 := [some (.ref 67), some (.int x1), some (.int (-2 : Int32)), none, none, none, none, none, none]) dX12_twins_17 rfl rfl rfl ?_
    refine x_bipush hP dX12_twins_18 (v := (-2)) rfl ?_
    refine x_istore_n hP (ls2 := [some (.ref 67), some (.int x1), some (.int (-2 : Int32)), some (.int (-2 : Int32)), none, none, none, none, none]) dX12_twins_20 rfl rfl rfl ?_
    refine x_iconst hP dX12_twins_21 (v := 0) rfl ?_
    refine x_istore hP (ls2 := [some (.ref 67), some (.int x1), some (.int (-2 : Int32)), some (.int (-2 : Int32)), some (.int (0 : Int32)), none, none, none, none]) dX12_twins_22 rfl rfl ?_
    refine x_drop hP [some (.ref 67), some (.int x1), some (.int (-2 : Int32)), some (.int (-2 : Int32)), some (.int (0 : Int32)), none, none, none, none] (And.intro rfl (And.intro rfl (And.intro rfl (And.intro rfl (And.intro rfl trivial))))) ?_
    obtain ⟨t38, hl39, hf⟩ := b_bd hf
    refine t_X12_twins_L24 hd hP _ _ _ _ _ _ _ hl39 ?_
    refine x_iload_n hP dX12_twins_167 rfl ?_
    refine x_if_ne hP dX12_twins_168 (tgt := 175) (by decide) (fun c40 => ?_) (fun c40 => ?_)
    · replace hf := p_f c40 hf
      refine x_iload_n hP dX12_twins_175 rfl ?_
      cases hf
      exact x_iret hP rfl dX12_twins_176
    · replace hf := p_t c40 hf
      refine x_iload_n hP dX12_twins_171 rfl ?_
      refine x_goto hP dX12_twins_172 (tgt := 176) (by decide) ?_
      cases hf
      exact x_iret hP rfl dX12_twins_176
  · replace hf := p_t c3 hf
    refine x_iconst hP dX12_twins_9 (v := (-1)) rfl ?_
    cases hf
    exact x_iret hP rfl dX12_twins_10
def f_X12_fillsFar_L3 : Nat → Int32 → Int32 → Int32 → Int32 → Mem → Option (Mem)
  | 0, _, _, _, _, _ => none
  | fu + 1, l1, l2, l3, l4, M =>
    if (7 : Int32) ≤ l4 then
      some M
    else
      lt (
        if l4 = l1 then
          (0 : Int32)
        else
          (1000 : Int32)
       : Int32) fun t2 =>
      (pg M 110 7 l4 t2).bind fun M4 =>
      lt (l4 + 1 : Int32) fun v5 =>
      f_X12_fillsFar_L3 fu l1 l2 l3 v5 M4
def f_X12_fillsFar_L49 : Nat → Int32 → Int32 → Int32 → Int32 → Mem → Option (Mem)
  | 0, _, _, _, _, _ => none
  | fu + 1, l2, l3, l4, l5, M =>
    (ag M 78 2 (M.1 67 18)).bind fun v9 =>
    if v9 ≤ l5 then
      some M
    else
      if (l3 >>> (l5 &&& 31)) &&& (1 : Int32) = (1 : Int32) then
        lt (l5 + 1 : Int32) fun v12 =>
        f_X12_fillsFar_L49 fu l2 l3 l4 v12 M
      else
        lt (
          if (l2 >>> (l5 &&& 31)) &&& (1 : Int32) = (1 : Int32) then
            (0 : Int32)
          else
            (1 : Int32)
         : Int32) fun t13 =>
        (ag M 79 20 (((10 : Int32) * (M.1 67 18)) + l5)).bind fun v15 =>
        (ag M 80 20 (((10 : Int32) * (M.1 67 18)) + l5)).bind fun v16 =>
        (ag M 110 7 v15).bind fun v17 =>
        (ag M 110 7 v16).bind fun v18 =>
        (
          if v18 ≤ v17 + t13 then
            some M
          else
            (ag M 110 7 v15).bind fun v21 =>
            (pg M 110 7 v16 (v21 + t13)).bind fun M22 =>
            some M22
        ).bind fun t19 =>
        (ag t19 110 7 v16).bind fun v23 =>
        (ag t19 110 7 v15).bind fun v24 =>
        if v24 ≤ v23 + t13 then
          lt (l5 + 1 : Int32) fun v26 =>
          f_X12_fillsFar_L49 fu l2 l3 l4 v26 t19
        else
          (ag t19 110 7 v16).bind fun v27 =>
          (pg t19 110 7 v15 (v27 + t13)).bind fun M28 =>
          lt (l5 + 1 : Int32) fun v29 =>
          f_X12_fillsFar_L49 fu l2 l3 l4 v29 M28
def f_X12_fillsFar_L39 : Nat → Int32 → Int32 → Int32 → Mem → Option (Mem)
  | 0, _, _, _, _ => none
  | fu + 1, l2, l3, l4, M =>
    if (7 : Int32) ≤ l4 then
      some M
    else
      (f_X12_fillsFar_L49 FU l2 l3 l4 (0 : Int32) M).bind fun t30 =>
      lt (l4 + 1 : Int32) fun v32 =>
      f_X12_fillsFar_L39 fu l2 l3 v32 t30
def f_X12_fillsFar (x1 : Int32) (x2 : Int32) (x3 : Int32) (M : Mem) : Option (Mem) :=
  (f_X12_fillsFar_L3 FU x1 x2 x3 (0 : Int32) M).bind fun t6 =>
  (f_X12_fillsFar_L39 FU x2 x3 (0 : Int32) t6).bind fun t33 =>
  some t33
set_option maxHeartbeats 1000000 in
set_option maxRecDepth 20000 in
theorem t_X12_fillsFar_L3 {g : GG} {d : Nat} {P : PT} {res : Option RS} (hd : 1 ≤ d)  (hP : IsM g iX12_fillsFar d res P) : ∀ (fu : Nat) (l1 : Int32) (l2 : Int32) (l3 : Int32) (l4 : Int32) (M : Mem) (t : Mem), f_X12_fillsFar_L3 fu l1 l2 l3 l4 M = some t → P 36 [some (.ref 67), none, some (.int l2), some (.int l3), none, none, none, none, none] [] LAY t → P 3 [some (.ref 67), some (.int l1), some (.int l2), some (.int l3), some (.int l4), none, none, none, none] [] LAY M := by
  have hd1 : 1 ≤ d := by omega
  intro fu
  induction fu with
  | zero => intro l1 l2 l3 l4 M t hf; simp [f_X12_fillsFar_L3] at hf
  | succ fu ih =>
    intro l1 l2 l3 l4 M t hf hx
    rw [f_X12_fillsFar_L3] at hf
    refine x_iload hP dX12_fillsFar_3 rfl ?_
    refine x_bipush hP dX12_fillsFar_5 (v := 7) rfl ?_
    refine x_icmp_ge hP dX12_fillsFar_7 (tgt := 36) (by decide) (fun c1 => ?_) (fun c1 => ?_)
    · replace hf := p_t c1 hf
      refine x_drop hP [some (.ref 67), none, some (.int l2), some (.int l3), none, none, none, none, none] (And.intro rfl (And.intro rfl (And.intro rfl trivial))) ?_
      cases hf
      exact hx
    · replace hf := p_f c1 hf
      refine x_aload_n hP dX12_fillsFar_10 rfl ?_
      refine x_getA hP fX12_146 lay67 (r := 110) rfl dX12_fillsFar_11 ?_
      refine x_iload hP dX12_fillsFar_14 rfl ?_
      refine x_iload hP dX12_fillsFar_16 rfl ?_
      refine x_iload_n hP dX12_fillsFar_18 rfl ?_
      obtain ⟨t2, het2, hf⟩ := b_lt hf
      have hj2 : P 29 [some (.ref 67), some (.int l1), some (.int l2), some (.int l3), some (.int l4), none, none, none, none] [.int t2, .int l4, .ref 110] LAY M := by
        obtain ⟨M4, hiM4, hM4, hf⟩ := b_pg hf
        refine y_ast hP lay110 hiM4 hM4 dX12_fillsFar_29 ?_
        obtain ⟨v5, hv5, hf⟩ := b_lt hf
        refine x_iinc hP (v := v5) (ls2 := [some (.ref 67), some (.int l1), some (.int l2), some (.int l3), some (.int v5), none, none, none, none]) dX12_fillsFar_30 rfl (by rw [hv5]; rfl) rfl rfl ?_
        refine x_goto hP dX12_fillsFar_33 (tgt := 3) (by decide) ?_
        refine x_drop hP [some (.ref 67), some (.int l1), some (.int l2), some (.int l3), some (.int v5), none, none, none, none] (And.intro rfl (And.intro rfl (And.intro rfl (And.intro rfl (And.intro rfl trivial))))) ?_
        exact ih _ _ _ _ _ _ hf hx
      clear hf
      have hf := het2
      clear het2
      refine x_icmp_ne hP dX12_fillsFar_19 (tgt := 26) (by decide) (fun c3 => ?_) (fun c3 => ?_)
      · replace hf := e_f c3 hf
        refine x_sipush hP dX12_fillsFar_26 (v := 1000) rfl ?_
        refine x_drop hP [some (.ref 67), some (.int l1), some (.int l2), some (.int l3), some (.int l4), none, none, none, none] (And.intro rfl (And.intro rfl (And.intro rfl (And.intro rfl (And.intro rfl trivial))))) ?_
        subst hf
        exact hj2
      · replace hf := e_t c3 hf
        refine x_iconst hP dX12_fillsFar_22 (v := 0) rfl ?_
        refine x_goto hP dX12_fillsFar_23 (tgt := 29) (by decide) ?_
        refine x_drop hP [some (.ref 67), some (.int l1), some (.int l2), some (.int l3), some (.int l4), none, none, none, none] (And.intro rfl (And.intro rfl (And.intro rfl (And.intro rfl (And.intro rfl trivial))))) ?_
        subst hf
        exact hj2
set_option maxHeartbeats 1000000 in
set_option maxRecDepth 20000 in
theorem t_X12_fillsFar_L49 {g : GG} {d : Nat} {P : PT} {res : Option RS} (hd : 1 ≤ d)  (hP : IsM g iX12_fillsFar d res P) : ∀ (fu : Nat) (l2 : Int32) (l3 : Int32) (l4 : Int32) (l5 : Int32) (M : Mem) (t : Mem), f_X12_fillsFar_L49 fu l2 l3 l4 l5 M = some t → P 207 [some (.ref 67), none, some (.int l2), some (.int l3), some (.int l4), none, none, none, none] [] LAY t → P 49 [some (.ref 67), none, some (.int l2), some (.int l3), some (.int l4), some (.int l5), none, none, none] [] LAY M := by
  have hd1 : 1 ≤ d := by omega
  intro fu
  induction fu with
  | zero => intro l2 l3 l4 l5 M t hf; simp [f_X12_fillsFar_L49] at hf
  | succ fu ih =>
    intro l2 l3 l4 l5 M t hf hx
    rw [f_X12_fillsFar_L49] at hf
    refine x_iload hP dX12_fillsFar_49 rfl ?_
    refine x_aload_n hP dX12_fillsFar_51 rfl ?_
    refine x_getA hP fX12_49 lay67 (r := 78) rfl dX12_fillsFar_52 ?_
    refine x_aload_n hP dX12_fillsFar_55 rfl ?_
    refine x_getI hP fX12_251 lay67 dX12_fillsFar_56 ?_
    obtain ⟨v9, hiv9, hv9, hf⟩ := b_ag hf
    refine y_ald hP lay78 hiv9 hv9 dX12_fillsFar_59 ?_
    refine x_icmp_ge hP dX12_fillsFar_60 (tgt := 207) (by decide) (fun c10 => ?_) (fun c10 => ?_)
    · replace hf := p_t c10 hf
      refine x_drop hP [some (.ref 67), none, some (.int l2), some (.int l3), some (.int l4), none, none, none, none] (And.intro rfl (And.intro rfl (And.intro rfl (And.intro rfl trivial)))) ?_
      cases hf
      exact hx
    · replace hf := p_f c10 hf
      refine x_iload_n hP dX12_fillsFar_63 rfl ?_
      refine x_iload hP dX12_fillsFar_64 rfl ?_
      refine x_ishr hP dX12_fillsFar_66 ?_
      refine x_iconst hP dX12_fillsFar_67 (v := 1) rfl ?_
      refine x_iand hP dX12_fillsFar_68 ?_
      refine x_iconst hP dX12_fillsFar_69 (v := 1) rfl ?_
      refine x_icmp_ne hP dX12_fillsFar_70 (tgt := 76) (by decide) (fun c11 => ?_) (fun c11 => ?_)
      · replace hf := p_f c11 hf
        refine x_iload_n hP dX12_fillsFar_76 rfl ?_
        refine x_iload hP dX12_fillsFar_77 rfl ?_
        refine x_ishr hP dX12_fillsFar_79 ?_
        refine x_iconst hP dX12_fillsFar_80 (v := 1) rfl ?_
        refine x_iand hP dX12_fillsFar_81 ?_
        refine x_iconst hP dX12_fillsFar_82 (v := 1) rfl ?_
        obtain ⟨t13, het13, hf⟩ := b_lt hf
        have hj13 : P 91 [some (.ref 67), none, some (.int l2), some (.int l3), some (.int l4), some (.int l5), none, none, none] [.int t13] LAY M := by
          refine x_istore hP (ls2 := [some (.ref 67), none, some (.int l2), some (.int l3), some (.int l4), some (.int l5), some (.int t13), none, none]) dX12_fillsFar_91 rfl rfl ?_
          refine x_aload_n hP dX12_fillsFar_93 rfl ?_
          refine x_getA hP fX12_52 lay67 (r := 79) rfl dX12_fillsFar_94 ?_
          refine x_bipush hP dX12_fillsFar_97 (v := 10) rfl ?_
          refine x_aload_n hP dX12_fillsFar_99 rfl ?_
          refine x_getI hP fX12_251 lay67 dX12_fillsFar_100 ?_
          refine x_imul hP dX12_fillsFar_103 ?_
          refine x_iload hP dX12_fillsFar_104 rfl ?_
          refine x_iadd hP dX12_fillsFar_106 ?_
          obtain ⟨v15, hiv15, hv15, hf⟩ := b_ag hf
          refine y_ald hP lay79 hiv15 hv15 dX12_fillsFar_107 ?_
          refine x_istore hP (ls2 := [some (.ref 67), none, some (.int l2), some (.int l3), some (.int l4), some (.int l5), some (.int t13), some (.int v15), none]) dX12_fillsFar_108 rfl rfl ?_
          refine x_aload_n hP dX12_fillsFar_110 rfl ?_
          refine x_getA hP fX12_55 lay67 (r := 80) rfl dX12_fillsFar_111 ?_
          refine x_bipush hP dX12_fillsFar_114 (v := 10) rfl ?_
          refine x_aload_n hP dX12_fillsFar_116 rfl ?_
          refine x_getI hP fX12_251 lay67 dX12_fillsFar_117 ?_
          refine x_imul hP dX12_fillsFar_120 ?_
          refine x_iload hP dX12_fillsFar_121 rfl ?_
          refine x_iadd hP dX12_fillsFar_123 ?_
          obtain ⟨v16, hiv16, hv16, hf⟩ := b_ag hf
          refine y_ald hP lay80 hiv16 hv16 dX12_fillsFar_124 ?_
          refine x_istore hP (ls2 := [some (.ref 67), none, some (.int l2), some (.int l3), some (.int l4), some (.int l5), some (.int t13), some (.int v15), some (.int v16)]) dX12_fillsFar_125 rfl rfl ?_
          refine x_aload_n hP dX12_fillsFar_127 rfl ?_
          refine x_getA hP fX12_146 lay67 (r := 110) rfl dX12_fillsFar_128 ?_
          refine x_iload hP dX12_fillsFar_131 rfl ?_
          obtain ⟨v17, hiv17, hv17, hf⟩ := b_ag hf
          refine y_ald hP lay110 hiv17 hv17 dX12_fillsFar_133 ?_
          refine x_iload hP dX12_fillsFar_134 rfl ?_
          refine x_iadd hP dX12_fillsFar_136 ?_
          refine x_aload_n hP dX12_fillsFar_137 rfl ?_
          refine x_getA hP fX12_146 lay67 (r := 110) rfl dX12_fillsFar_138 ?_
          refine x_iload hP dX12_fillsFar_141 rfl ?_
          obtain ⟨v18, hiv18, hv18, hf⟩ := b_ag hf
          refine y_ald hP lay110 hiv18 hv18 dX12_fillsFar_143 ?_
          obtain ⟨t19, het19, hf⟩ := b_bd hf
          have hj19 : P 164 [some (.ref 67), none, some (.int l2), some (.int l3), some (.int l4), some (.int l5), some (.int t13), some (.int v15), some (.int v16)] [] LAY t19 := by
            refine x_aload_n hP dX12_fillsFar_164 rfl ?_
            refine x_getA hP fX12_146 lay67 (r := 110) rfl dX12_fillsFar_165 ?_
            refine x_iload hP dX12_fillsFar_168 rfl ?_
            obtain ⟨v23, hiv23, hv23, hf⟩ := b_ag hf
            refine y_ald hP lay110 hiv23 hv23 dX12_fillsFar_170 ?_
            refine x_iload hP dX12_fillsFar_171 rfl ?_
            refine x_iadd hP dX12_fillsFar_173 ?_
            refine x_aload_n hP dX12_fillsFar_174 rfl ?_
            refine x_getA hP fX12_146 lay67 (r := 110) rfl dX12_fillsFar_175 ?_
            refine x_iload hP dX12_fillsFar_178 rfl ?_
            obtain ⟨v24, hiv24, hv24, hf⟩ := b_ag hf
            refine y_ald hP lay110 hiv24 hv24 dX12_fillsFar_180 ?_
            refine x_icmp_ge hP dX12_fillsFar_181 (tgt := 201) (by decide) (fun c25 => ?_) (fun c25 => ?_)
            · replace hf := p_t c25 hf
              obtain ⟨v26, hv26, hf⟩ := b_lt hf
              refine x_iinc hP (v := v26) (ls2 := [some (.ref 67), none, some (.int l2), some (.int l3), some (.int l4), some (.int v26), some (.int t13), some (.int v15), some (.int v16)]) dX12_fillsFar_201 rfl (by rw [hv26]; rfl) rfl rfl ?_
              refine x_goto hP dX12_fillsFar_204 (tgt := 49) (by decide) ?_
              refine x_drop hP [some (.ref 67), none, some (.int l2), some (.int l3), some (.int l4), some (.int v26), none, none, none] (And.intro rfl (And.intro rfl (And.intro rfl (And.intro rfl (And.intro rfl trivial))))) ?_
              exact ih _ _ _ _ _ _ hf hx
            · replace hf := p_f c25 hf
              refine x_aload_n hP dX12_fillsFar_184 rfl ?_
              refine x_getA hP fX12_146 lay67 (r := 110) rfl dX12_fillsFar_185 ?_
              refine x_iload hP dX12_fillsFar_188 rfl ?_
              refine x_aload_n hP dX12_fillsFar_190 rfl ?_
              refine x_getA hP fX12_146 lay67 (r := 110) rfl dX12_fillsFar_191 ?_
              refine x_iload hP dX12_fillsFar_194 rfl ?_
              obtain ⟨v27, hiv27, hv27, hf⟩ := b_ag hf
              refine y_ald hP lay110 hiv27 hv27 dX12_fillsFar_196 ?_
              refine x_iload hP dX12_fillsFar_197 rfl ?_
              refine x_iadd hP dX12_fillsFar_199 ?_
              obtain ⟨M28, hiM28, hM28, hf⟩ := b_pg hf
              refine y_ast hP lay110 hiM28 hM28 dX12_fillsFar_200 ?_
              obtain ⟨v29, hv29, hf⟩ := b_lt hf
              refine x_iinc hP (v := v29) (ls2 := [some (.ref 67), none, some (.int l2), some (.int l3), some (.int l4), some (.int v29), some (.int t13), some (.int v15), some (.int v16)]) dX12_fillsFar_201 rfl (by rw [hv29]; rfl) rfl rfl ?_
              refine x_goto hP dX12_fillsFar_204 (tgt := 49) (by decide) ?_
              refine x_drop hP [some (.ref 67), none, some (.int l2), some (.int l3), some (.int l4), some (.int v29), none, none, none] (And.intro rfl (And.intro rfl (And.intro rfl (And.intro rfl (And.intro rfl trivial))))) ?_
              exact ih _ _ _ _ _ _ hf hx
          clear hf
          have hf := het19
          clear het19
          refine x_icmp_ge hP dX12_fillsFar_144 (tgt := 164) (by decide) (fun c20 => ?_) (fun c20 => ?_)
          · replace hf := p_t c20 hf
            refine x_drop hP [some (.ref 67), none, some (.int l2), some (.int l3), some (.int l4), some (.int l5), some (.int t13), some (.int v15), some (.int v16)] (And.intro rfl (And.intro rfl (And.intro rfl (And.intro rfl (And.intro rfl (And.intro rfl (And.intro rfl (And.intro rfl trivial)))))))) ?_
            cases hf
            exact hj19
          · replace hf := p_f c20 hf
            refine x_aload_n hP dX12_fillsFar_147 rfl ?_
            refine x_getA hP fX12_146 lay67 (r := 110) rfl dX12_fillsFar_148 ?_
            refine x_iload hP dX12_fillsFar_151 rfl ?_
            refine x_aload_n hP dX12_fillsFar_153 rfl ?_
            refine x_getA hP fX12_146 lay67 (r := 110) rfl dX12_fillsFar_154 ?_
            refine x_iload hP dX12_fillsFar_157 rfl ?_
            obtain ⟨v21, hiv21, hv21, hf⟩ := b_ag hf
            refine y_ald hP lay110 hiv21 hv21 dX12_fillsFar_159 ?_
            refine x_iload hP dX12_fillsFar_160 rfl ?_
            refine x_iadd hP dX12_fillsFar_162 ?_
            obtain ⟨M22, hiM22, hM22, hf⟩ := b_pg hf
            refine y_ast hP lay110 hiM22 hM22 dX12_fillsFar_163 ?_
            refine x_drop hP [some (.ref 67), none, some (.int l2), some (.int l3), some (.int l4), some (.int l5), some (.int t13), some (.int v15), some (.int v16)] (And.intro rfl (And.intro rfl (And.intro rfl (And.intro rfl (And.intro rfl (And.intro rfl (And.intro rfl (And.intro rfl trivial)))))))) ?_
            cases hf
            exact hj19
        clear hf
        have hf := het13
        clear het13
        refine x_icmp_ne hP dX12_fillsFar_83 (tgt := 90) (by decide) (fun c14 => ?_) (fun c14 => ?_)
        · replace hf := e_f c14 hf
          refine x_iconst hP dX12_fillsFar_90 (v := 1) rfl ?_
          refine x_drop hP [some (.ref 67), none, some (.int l2), some (.int l3), some (.int l4), some (.int l5), none, none, none] (And.intro rfl (And.intro rfl (And.intro rfl (And.intro rfl (And.intro rfl trivial))))) ?_
          subst hf
          exact hj13
        · replace hf := e_t c14 hf
          refine x_iconst hP dX12_fillsFar_86 (v := 0) rfl ?_
          refine x_goto hP dX12_fillsFar_87 (tgt := 91) (by decide) ?_
          refine x_drop hP [some (.ref 67), none, some (.int l2), some (.int l3), some (.int l4), some (.int l5), none, none, none] (And.intro rfl (And.intro rfl (And.intro rfl (And.intro rfl (And.intro rfl trivial))))) ?_
          subst hf
          exact hj13
      · replace hf := p_t c11 hf
        refine x_goto hP dX12_fillsFar_73 (tgt := 201) (by decide) ?_
        obtain ⟨v12, hv12, hf⟩ := b_lt hf
        refine x_iinc hP (v := v12) (ls2 := [some (.ref 67), none, some (.int l2), some (.int l3), some (.int l4), some (.int v12), none, none, none]) dX12_fillsFar_201 rfl (by rw [hv12]; rfl) rfl rfl ?_
        refine x_goto hP dX12_fillsFar_204 (tgt := 49) (by decide) ?_
        refine x_drop hP [some (.ref 67), none, some (.int l2), some (.int l3), some (.int l4), some (.int v12), none, none, none] (And.intro rfl (And.intro rfl (And.intro rfl (And.intro rfl (And.intro rfl trivial))))) ?_
        exact ih _ _ _ _ _ _ hf hx
set_option maxHeartbeats 1000000 in
set_option maxRecDepth 20000 in
theorem t_X12_fillsFar_L39 {g : GG} {d : Nat} {P : PT} {res : Option RS} (hd : 1 ≤ d)  (hP : IsM g iX12_fillsFar d res P) : ∀ (fu : Nat) (l2 : Int32) (l3 : Int32) (l4 : Int32) (M : Mem) (t : Mem), f_X12_fillsFar_L39 fu l2 l3 l4 M = some t → P 213 [none, none, none, none, none, none, none, none, none] [] LAY t → P 39 [some (.ref 67), none, some (.int l2), some (.int l3), some (.int l4), none, none, none, none] [] LAY M := by
  have hd1 : 1 ≤ d := by omega
  intro fu
  induction fu with
  | zero => intro l2 l3 l4 M t hf; simp [f_X12_fillsFar_L39] at hf
  | succ fu ih =>
    intro l2 l3 l4 M t hf hx
    rw [f_X12_fillsFar_L39] at hf
    refine x_iload hP dX12_fillsFar_39 rfl ?_
    refine x_bipush hP dX12_fillsFar_41 (v := 7) rfl ?_
    refine x_icmp_ge hP dX12_fillsFar_43 (tgt := 213) (by decide) (fun c8 => ?_) (fun c8 => ?_)
    · replace hf := p_t c8 hf
      refine x_drop hP [none, none, none, none, none, none, none, none, none] trivial ?_
      cases hf
      exact hx
    · replace hf := p_f c8 hf
      refine x_iconst hP dX12_fillsFar_46 (v := 0) rfl ?_
      refine x_istore hP (ls2 := [some (.ref 67), none, some (.int l2), some (.int l3), some (.int l4), some (.int (0 : Int32)), none, none, none]) dX12_fillsFar_47 rfl rfl ?_
      refine x_drop hP [some (.ref 67), none, some (.int l2), some (.int l3), some (.int l4), some (.int (0 : Int32)), none, none, none] (And.intro rfl (And.intro rfl (And.intro rfl (And.intro rfl (And.intro rfl trivial))))) ?_
      obtain ⟨t30, hl31, hf⟩ := b_bd hf
      refine t_X12_fillsFar_L49 hd hP _ _ _ _ _ _ _ hl31 ?_
      obtain ⟨v32, hv32, hf⟩ := b_lt hf
      refine x_iinc hP (v := v32) (ls2 := [some (.ref 67), none, some (.int l2), some (.int l3), some (.int v32), none, none, none, none]) dX12_fillsFar_207 rfl (by rw [hv32]; rfl) rfl rfl ?_
      refine x_goto hP dX12_fillsFar_210 (tgt := 39) (by decide) ?_
      refine x_drop hP [some (.ref 67), none, some (.int l2), some (.int l3), some (.int v32), none, none, none, none] (And.intro rfl (And.intro rfl (And.intro rfl (And.intro rfl trivial)))) ?_
      exact ih _ _ _ _ _ hf hx
set_option maxHeartbeats 1000000 in
set_option maxRecDepth 20000 in
theorem t_X12_fillsFar {g : GG} {d : Nat} (hd : 1 ≤ d) {x1 : Int32} {x2 : Int32} {x3 : Int32} {M : Mem} {M' : Mem} (hf : f_X12_fillsFar x1 x2 x3 M = some M') : ExM g d iX12_fillsFar [.ref 67, .int x1, .int x2, .int x3] LAY M (none, LAY, M') := by
  have hd1 : 1 ≤ d := by omega
  refine ExM.main pnX12 rfl (ls := [some (.ref 67), some (.int x1), some (.int x2), some (.int x3), none, none, none, none, none]) rfl ?_
  intro P hP
  rw [f_X12_fillsFar] at hf
  refine x_iconst hP dX12_fillsFar_0 (v := 0) rfl ?_
  refine x_istore hP (ls2 := [some (.ref 67), some (.int x1), some (.int x2), some (.int x3), some (.int (0 : Int32)), none, none, none, none]) dX12_fillsFar_1 rfl rfl ?_
  refine x_drop hP [some (.ref 67), some (.int x1), some (.int x2), some (.int x3), some (.int (0 : Int32)), none, none, none, none] (And.intro rfl (And.intro rfl (And.intro rfl (And.intro rfl (And.intro rfl trivial))))) ?_
  obtain ⟨t6, hl7, hf⟩ := b_bd hf
  refine t_X12_fillsFar_L3 hd hP _ _ _ _ _ _ _ hl7 ?_
  refine x_iconst hP dX12_fillsFar_36 (v := 0) rfl ?_
  refine x_istore hP (ls2 := [some (.ref 67), none, some (.int x2), some (.int x3), some (.int (0 : Int32)), none, none, none, none]) dX12_fillsFar_37 rfl rfl ?_
  refine x_drop hP [some (.ref 67), none, some (.int x2), some (.int x3), some (.int (0 : Int32)), none, none, none, none] (And.intro rfl (And.intro rfl (And.intro rfl (And.intro rfl trivial)))) ?_
  obtain ⟨t33, hl34, hf⟩ := b_bd hf
  refine t_X12_fillsFar_L39 hd hP _ _ _ _ _ _ hl34 ?_
  cases hf
  exact x_vret hP rfl dX12_fillsFar_213
def f_X12_farTo (x1 : Int32) (M : Mem) : Option (Int32) :=
  (ag M 110 7 x1).bind fun v1 =>
  if v1 < (1000 : Int32) then
    (ag M 110 7 x1).bind fun v3 =>
    some v3
  else
    some (-2 : Int32)
set_option maxHeartbeats 1000000 in
set_option maxRecDepth 20000 in
theorem t_X12_farTo {g : GG} {d : Nat} (hd : 1 ≤ d) {x1 : Int32} {M : Mem} {r : Int32} (hf : f_X12_farTo x1 M = some r) : ExM g d iX12_farTo [.ref 67, .int x1] LAY M (some (.int r), LAY, M) := by
  have hd1 : 1 ≤ d := by omega
  refine ExM.main pnX12 rfl (ls := [some (.ref 67), some (.int x1)]) rfl ?_
  intro P hP
  rw [f_X12_farTo] at hf
  refine x_aload_n hP dX12_farTo_0 rfl ?_
  refine x_getA hP fX12_146 lay67 (r := 110) rfl dX12_farTo_1 ?_
  refine x_iload_n hP dX12_farTo_4 rfl ?_
  obtain ⟨v1, hiv1, hv1, hf⟩ := b_ag hf
  refine y_ald hP lay110 hiv1 hv1 dX12_farTo_5 ?_
  refine x_sipush hP dX12_farTo_6 (v := 1000) rfl ?_
  refine x_icmp_lt hP dX12_farTo_9 (tgt := 17) (by decide) (fun c2 => ?_) (fun c2 => ?_)
  · replace hf := p_t c2 hf
    refine x_aload_n hP dX12_farTo_17 rfl ?_
    refine x_getA hP fX12_146 lay67 (r := 110) rfl dX12_farTo_18 ?_
    refine x_iload_n hP dX12_farTo_21 rfl ?_
    obtain ⟨v3, hiv3, hv3, hf⟩ := b_ag hf
    refine y_ald hP lay110 hiv3 hv3 dX12_farTo_22 ?_
    cases hf
    exact x_iret hP rfl dX12_farTo_23
  · replace hf := p_f c2 hf
    refine x_bipush hP dX12_farTo_12 (v := (-2)) rfl ?_
    refine x_goto hP dX12_farTo_14 (tgt := 23) (by decide) ?_
    cases hf
    exact x_iret hP rfl dX12_farTo_23
def f_X12_steps (x1 : Int32) (x2 : Int32) (M : Mem) : Option (Int32 × Mem) :=
  (f_X12_isCorner x1 M).bind fun v2 =>
  if v2 = 0 then
    some ((-1 : Int32), M)
  else
    (f_X12_isCorner x2 M).bind fun v5 =>
    if v5 = 0 then
      some ((-1 : Int32), M)
    else
      (f_X12_fillsFar x1 (0 : Int32) (0 : Int32) M).bind fun M8 =>
      (f_X12_farTo x2 M8).bind fun v10 =>
      some (v10, M8)
set_option maxHeartbeats 1000000 in
set_option maxRecDepth 20000 in
theorem t_X12_steps {g : GG} {d : Nat} (hd : 3 ≤ d) {x1 : Int32} {x2 : Int32} {M : Mem} {r : Int32} {M' : Mem} (hf : f_X12_steps x1 x2 M = some (r, M')) : ExM g d iX12_steps [.ref 67, .int x1, .int x2] LAY M (some (.int r), LAY, M') := by
  have hd1 : 1 ≤ d := by omega
  refine ExM.main pnX12 rfl (ls := [some (.ref 67), some (.int x1), some (.int x2)]) rfl ?_
  intro P hP
  rw [f_X12_steps] at hf
  refine x_aload_n hP dX12_steps_0 rfl ?_
  refine x_iload_n hP dX12_steps_1 rfl ?_
  obtain ⟨v2, hc1, hf⟩ := b_bd hf
  refine y_cvi hP oX12_isCorner lX12_392 [.int x1] [] rfl rfl rfl lay67 dX12_steps_2 (t_X12_isCorner (d := d - 1) (by omega) hc1) (by omega) ?_
  refine x_if_eq hP dX12_steps_5 (tgt := 16) (by decide) (fun c3 => ?_) (fun c3 => ?_)
  · replace hf := p_t c3 hf
    refine x_iconst hP dX12_steps_16 (v := (-1)) rfl ?_
    cases hf
    exact x_iret hP rfl dX12_steps_17
  · replace hf := p_f c3 hf
    refine x_aload_n hP dX12_steps_8 rfl ?_
    refine x_iload_n hP dX12_steps_9 rfl ?_
    obtain ⟨v5, hc4, hf⟩ := b_bd hf
    refine y_cvi hP oX12_isCorner lX12_392 [.int x2] [] rfl rfl rfl lay67 dX12_steps_10 (t_X12_isCorner (d := d - 1) (by omega) hc4) (by omega) ?_
    refine x_if_ne hP dX12_steps_13 (tgt := 18) (by decide) (fun c6 => ?_) (fun c6 => ?_)
    · replace hf := p_f c6 hf
      refine x_aload_n hP dX12_steps_18 rfl ?_
      refine x_iload_n hP dX12_steps_19 rfl ?_
      refine x_iconst hP dX12_steps_20 (v := 0) rfl ?_
      refine x_iconst hP dX12_steps_21 (v := 0) rfl ?_
      obtain ⟨M8, hc7, hf⟩ := b_bd hf
      refine y_cvv hP oX12_fillsFar lX12_450 [.int x1, .int (0 : Int32), .int (0 : Int32)] [] rfl rfl rfl lay67 dX12_steps_22 (t_X12_fillsFar (d := d - 1) (by omega) hc7) (by omega) ?_
      refine x_aload_n hP dX12_steps_25 rfl ?_
      refine x_iload_n hP dX12_steps_26 rfl ?_
      obtain ⟨v10, hc9, hf⟩ := b_bd hf
      refine y_cvi hP oX12_farTo lX12_453 [.int x2] [] rfl rfl rfl lay67 dX12_steps_27 (t_X12_farTo (d := d - 1) (by omega) hc9) (by omega) ?_
      cases hf
      exact x_iret hP rfl dX12_steps_30
    · replace hf := p_t c6 hf
      refine x_iconst hP dX12_steps_16 (v := (-1)) rfl ?_
      cases hf
      exact x_iret hP rfl dX12_steps_17
def f_X12_litNow (M : Mem) : Option (Int32 × Mem) :=
  (f_X12_copies M).bind fun M2 =>
  (f_X12_litBits M2).bind fun t4 =>
  some (t4.1, t4.2)
set_option maxHeartbeats 1000000 in
set_option maxRecDepth 20000 in
theorem t_X12_litNow {g : GG} {d : Nat} (hd : 3 ≤ d) {M : Mem} {r : Int32} {M' : Mem} (hf : f_X12_litNow M = some (r, M')) : ExM g d iX12_litNow [.ref 67] LAY M (some (.int r), LAY, M') := by
  have hd1 : 1 ≤ d := by omega
  refine ExM.main pnX12 rfl (ls := [some (.ref 67)]) rfl ?_
  intro P hP
  rw [f_X12_litNow] at hf
  refine x_aload_n hP dX12_litNow_0 rfl ?_
  obtain ⟨M2, hc1, hf⟩ := b_bd hf
  refine y_cvv hP oX12_copies lX12_347 [] [] rfl rfl rfl lay67 dX12_litNow_1 (t_X12_copies (d := d - 1) (by omega) hc1) (by omega) ?_
  refine x_aload_n hP dX12_litNow_4 rfl ?_
  obtain ⟨t4, hc3, hf⟩ := b_bd hf
  refine y_cvi hP oX12_litBits lX12_432 [] [] rfl rfl rfl lay67 dX12_litNow_5 (t_X12_litBits (d := d - 1) (by omega) hc3) (by omega) ?_
  cases hf
  exact x_iret hP rfl dX12_litNow_8
def f_X12_dark (x1 : Int32) (x2 : Int32) (M : Mem) : Option (Int32 × Mem) :=
  (f_X12_isCorner x1 M).bind fun v2 =>
  if v2 = 0 then
    some ((-1 : Int32), M)
  else
    (f_X12_isCorner x2 M).bind fun v5 =>
    if v5 = 0 then
      some ((-1 : Int32), M)
    else
      (f_X12_litNow M).bind fun t8 =>
      (f_X12_fillsFar x1 t8.1 (0 : Int32) t8.2).bind fun M10 =>
      (f_X12_farTo x2 M10).bind fun v12 =>
      some (v12, M10)
set_option maxHeartbeats 1000000 in
set_option maxRecDepth 20000 in
theorem t_X12_dark {g : GG} {d : Nat} (hd : 4 ≤ d) {x1 : Int32} {x2 : Int32} {M : Mem} {r : Int32} {M' : Mem} (hf : f_X12_dark x1 x2 M = some (r, M')) : ExM g d iX12_dark [.ref 67, .int x1, .int x2] LAY M (some (.int r), LAY, M') := by
  have hd1 : 1 ≤ d := by omega
  refine ExM.main pnX12 rfl (ls := [some (.ref 67), some (.int x1), some (.int x2)]) rfl ?_
  intro P hP
  rw [f_X12_dark] at hf
  refine x_aload_n hP dX12_dark_0 rfl ?_
  refine x_iload_n hP dX12_dark_1 rfl ?_
  obtain ⟨v2, hc1, hf⟩ := b_bd hf
  refine y_cvi hP oX12_isCorner lX12_392 [.int x1] [] rfl rfl rfl lay67 dX12_dark_2 (t_X12_isCorner (d := d - 1) (by omega) hc1) (by omega) ?_
  refine x_if_eq hP dX12_dark_5 (tgt := 16) (by decide) (fun c3 => ?_) (fun c3 => ?_)
  · replace hf := p_t c3 hf
    refine x_iconst hP dX12_dark_16 (v := (-1)) rfl ?_
    cases hf
    exact x_iret hP rfl dX12_dark_17
  · replace hf := p_f c3 hf
    refine x_aload_n hP dX12_dark_8 rfl ?_
    refine x_iload_n hP dX12_dark_9 rfl ?_
    obtain ⟨v5, hc4, hf⟩ := b_bd hf
    refine y_cvi hP oX12_isCorner lX12_392 [.int x2] [] rfl rfl rfl lay67 dX12_dark_10 (t_X12_isCorner (d := d - 1) (by omega) hc4) (by omega) ?_
    refine x_if_ne hP dX12_dark_13 (tgt := 18) (by decide) (fun c6 => ?_) (fun c6 => ?_)
    · replace hf := p_f c6 hf
      refine x_aload_n hP dX12_dark_18 rfl ?_
      refine x_iload_n hP dX12_dark_19 rfl ?_
      refine x_aload_n hP dX12_dark_20 rfl ?_
      obtain ⟨t8, hc7, hf⟩ := b_bd hf
      refine y_cvi hP oX12_litNow lX12_456 [] [.int x1, .ref 67] rfl rfl rfl lay67 dX12_dark_21 (t_X12_litNow (d := d - 1) (by omega) hc7) (by omega) ?_
      refine x_iconst hP dX12_dark_24 (v := 0) rfl ?_
      obtain ⟨M10, hc9, hf⟩ := b_bd hf
      refine y_cvv hP oX12_fillsFar lX12_450 [.int x1, .int t8.1, .int (0 : Int32)] [] rfl rfl rfl lay67 dX12_dark_25 (t_X12_fillsFar (d := d - 1) (by omega) hc9) (by omega) ?_
      refine x_aload_n hP dX12_dark_28 rfl ?_
      refine x_iload_n hP dX12_dark_29 rfl ?_
      obtain ⟨v12, hc11, hf⟩ := b_bd hf
      refine y_cvi hP oX12_farTo lX12_453 [.int x2] [] rfl rfl rfl lay67 dX12_dark_30 (t_X12_farTo (d := d - 1) (by omega) hc11) (by omega) ?_
      cases hf
      exact x_iret hP rfl dX12_dark_33
    · replace hf := p_t c6 hf
      refine x_iconst hP dX12_dark_16 (v := (-1)) rfl ?_
      cases hf
      exact x_iret hP rfl dX12_dark_17
def f_X12_fillsLit (x1 : Int32) (x2 : Int32) (M : Mem) : Option (Mem) :=
  (f_X12_fillsFar x1 (0 : Int32) (x2 ^^^ (-1 : Int32)) M).bind fun M2 =>
  some M2
set_option maxHeartbeats 1000000 in
set_option maxRecDepth 20000 in
theorem t_X12_fillsLit {g : GG} {d : Nat} (hd : 2 ≤ d) {x1 : Int32} {x2 : Int32} {M : Mem} {M' : Mem} (hf : f_X12_fillsLit x1 x2 M = some M') : ExM g d iX12_fillsLit [.ref 67, .int x1, .int x2] LAY M (none, LAY, M') := by
  have hd1 : 1 ≤ d := by omega
  refine ExM.main pnX12 rfl (ls := [some (.ref 67), some (.int x1), some (.int x2)]) rfl ?_
  intro P hP
  rw [f_X12_fillsLit] at hf
  refine x_aload_n hP dX12_fillsLit_0 rfl ?_
  refine x_iload_n hP dX12_fillsLit_1 rfl ?_
  refine x_iconst hP dX12_fillsLit_2 (v := 0) rfl ?_
  refine x_iload_n hP dX12_fillsLit_3 rfl ?_
  refine x_iconst hP dX12_fillsLit_4 (v := (-1)) rfl ?_
  refine x_ixor hP dX12_fillsLit_5 ?_
  obtain ⟨M2, hc1, hf⟩ := b_bd hf
  refine y_cvv hP oX12_fillsFar lX12_450 [.int x1, .int (0 : Int32), .int (x2 ^^^ (-1 : Int32))] [] rfl rfl rfl lay67 dX12_fillsLit_6 (t_X12_fillsFar (d := d - 1) (by omega) hc1) (by omega) ?_
  cases hf
  exact x_vret hP rfl dX12_fillsLit_9
def f_X12_safe_L23 : Nat → Int32 → Int32 → Mem → Option (Int32)
  | 0, _, _, _ => none
  | fu + 1, l2, l3, M =>
    (ag M 77 2 (M.1 67 18)).bind fun v8 =>
    if v8 ≤ l3 then
      some l2
    else
      (ag M 110 7 l3).bind fun v10 =>
      if (1000 : Int32) ≤ v10 then
        lt (l3 + 1 : Int32) fun v12 =>
        f_X12_safe_L23 fu l2 v12 M
      else
        lt (l2 ||| ((1 : Int32) <<< (l3 &&& 31)) : Int32) fun v13 =>
        lt (l3 + 1 : Int32) fun v14 =>
        f_X12_safe_L23 fu v13 v14 M
def f_X12_safe (x1 : Int32) (M : Mem) : Option (Int32 × Mem) :=
  (f_X12_isCorner x1 M).bind fun v2 =>
  if v2 = 0 then
    some ((-1 : Int32), M)
  else
    (f_X12_litNow M).bind fun t5 =>
    (f_X12_fillsLit x1 t5.1 t5.2).bind fun M7 =>
    (f_X12_safe_L23 FU (0 : Int32) (0 : Int32) M7).bind fun t15 =>
    some (t15, M7)
set_option maxHeartbeats 1000000 in
set_option maxRecDepth 20000 in
theorem t_X12_safe_L23 {g : GG} {d : Nat} {P : PT} {res : Option RS} (hd : 4 ≤ d)  (hP : IsM g iX12_safe d res P) : ∀ (fu : Nat) (l2 : Int32) (l3 : Int32) (M : Mem) (t : Int32), f_X12_safe_L23 fu l2 l3 M = some t → P 60 [none, none, some (.int t), none] [] LAY M → P 23 [some (.ref 67), none, some (.int l2), some (.int l3)] [] LAY M := by
  have hd1 : 1 ≤ d := by omega
  intro fu
  induction fu with
  | zero => intro l2 l3 M t hf; simp [f_X12_safe_L23] at hf
  | succ fu ih =>
    intro l2 l3 M t hf hx
    rw [f_X12_safe_L23] at hf
    refine x_iload_n hP dX12_safe_23 rfl ?_
    refine x_aload_n hP dX12_safe_24 rfl ?_
    refine x_getA hP fX12_46 lay67 (r := 77) rfl dX12_safe_25 ?_
    refine x_aload_n hP dX12_safe_28 rfl ?_
    refine x_getI hP fX12_251 lay67 dX12_safe_29 ?_
    obtain ⟨v8, hiv8, hv8, hf⟩ := b_ag hf
    refine y_ald hP lay77 hiv8 hv8 dX12_safe_32 ?_
    refine x_icmp_ge hP dX12_safe_33 (tgt := 60) (by decide) (fun c9 => ?_) (fun c9 => ?_)
    · replace hf := p_t c9 hf
      refine x_drop hP [none, none, some (.int l2), none] (And.intro rfl trivial) ?_
      cases hf
      exact hx
    · replace hf := p_f c9 hf
      refine x_aload_n hP dX12_safe_36 rfl ?_
      refine x_getA hP fX12_146 lay67 (r := 110) rfl dX12_safe_37 ?_
      refine x_iload_n hP dX12_safe_40 rfl ?_
      obtain ⟨v10, hiv10, hv10, hf⟩ := b_ag hf
      refine y_ald hP lay110 hiv10 hv10 dX12_safe_41 ?_
      refine x_sipush hP dX12_safe_42 (v := 1000) rfl ?_
      refine x_icmp_ge hP dX12_safe_45 (tgt := 54) (by decide) (fun c11 => ?_) (fun c11 => ?_)
      · replace hf := p_t c11 hf
        obtain ⟨v12, hv12, hf⟩ := b_lt hf
        refine x_iinc hP (v := v12) (ls2 := [some (.ref 67), none, some (.int l2), some (.int v12)]) dX12_safe_54 rfl (by rw [hv12]; rfl) rfl rfl ?_
        refine x_goto hP dX12_safe_57 (tgt := 23) (by decide) ?_
        refine x_drop hP [some (.ref 67), none, some (.int l2), some (.int v12)] (And.intro rfl (And.intro rfl (And.intro rfl trivial))) ?_
        exact ih _ _ _ _ hf hx
      · replace hf := p_f c11 hf
        refine x_iload_n hP dX12_safe_48 rfl ?_
        refine x_iconst hP dX12_safe_49 (v := 1) rfl ?_
        refine x_iload_n hP dX12_safe_50 rfl ?_
        refine x_ishl hP dX12_safe_51 ?_
        refine x_ior hP dX12_safe_52 ?_
        obtain ⟨v13, hv13, hf⟩ := b_lt hf
        refine y_nmI hv13 ?_
        refine x_istore_n hP (ls2 := [some (.ref 67), none, some (.int v13), some (.int l3)]) dX12_safe_53 rfl rfl rfl ?_
        obtain ⟨v14, hv14, hf⟩ := b_lt hf
        refine x_iinc hP (v := v14) (ls2 := [some (.ref 67), none, some (.int v13), some (.int v14)]) dX12_safe_54 rfl (by rw [hv14]; rfl) rfl rfl ?_
        refine x_goto hP dX12_safe_57 (tgt := 23) (by decide) ?_
        refine x_drop hP [some (.ref 67), none, some (.int v13), some (.int v14)] (And.intro rfl (And.intro rfl (And.intro rfl trivial))) ?_
        exact ih _ _ _ _ hf hx
set_option maxHeartbeats 1000000 in
set_option maxRecDepth 20000 in
theorem t_X12_safe {g : GG} {d : Nat} (hd : 4 ≤ d) {x1 : Int32} {M : Mem} {r : Int32} {M' : Mem} (hf : f_X12_safe x1 M = some (r, M')) : ExM g d iX12_safe [.ref 67, .int x1] LAY M (some (.int r), LAY, M') := by
  have hd1 : 1 ≤ d := by omega
  refine ExM.main pnX12 rfl (ls := [some (.ref 67), some (.int x1), none, none]) rfl ?_
  intro P hP
  rw [f_X12_safe] at hf
  refine x_aload_n hP dX12_safe_0 rfl ?_
  refine x_iload_n hP dX12_safe_1 rfl ?_
  obtain ⟨v2, hc1, hf⟩ := b_bd hf
  refine y_cvi hP oX12_isCorner lX12_392 [.int x1] [] rfl rfl rfl lay67 dX12_safe_2 (t_X12_isCorner (d := d - 1) (by omega) hc1) (by omega) ?_
  refine x_if_ne hP dX12_safe_5 (tgt := 10) (by decide) (fun c3 => ?_) (fun c3 => ?_)
  · replace hf := p_f c3 hf
    refine x_aload_n hP dX12_safe_10 rfl ?_
    refine x_iload_n hP dX12_safe_11 rfl ?_
    refine x_aload_n hP dX12_safe_12 rfl ?_
    obtain ⟨t5, hc4, hf⟩ := b_bd hf
    refine y_cvi hP oX12_litNow lX12_456 [] [.int x1, .ref 67] rfl rfl rfl lay67 dX12_safe_13 (t_X12_litNow (d := d - 1) (by omega) hc4) (by omega) ?_
    obtain ⟨M7, hc6, hf⟩ := b_bd hf
    refine y_cvv hP oX12_fillsLit lX12_459 [.int x1, .int t5.1] [] rfl rfl rfl lay67 dX12_safe_16 (t_X12_fillsLit (d := d - 1) (by omega) hc6) (by omega) ?_
    refine x_iconst hP dX12_safe_19 (v := 0) rfl ?_
    refine x_istore_n hP (ls2 := [some (.ref 67), some (.int x1), some (.int (0 : Int32)), none]) dX12_safe_20 rfl rfl rfl ?_
    refine x_iconst hP dX12_safe_21 (v := 0) rfl ?_
    refine x_istore_n hP (ls2 := [some (.ref 67), some (.int x1), some (.int (0 : Int32)), some (.int (0 : Int32))]) dX12_safe_22 rfl rfl rfl ?_
    refine x_drop hP [some (.ref 67), none, some (.int (0 : Int32)), some (.int (0 : Int32))] (And.intro rfl (And.intro rfl (And.intro rfl trivial))) ?_
    obtain ⟨t15, hl16, hf⟩ := b_bd hf
    refine t_X12_safe_L23 hd hP _ _ _ _ _ hl16 ?_
    refine x_iload_n hP dX12_safe_60 rfl ?_
    cases hf
    exact x_iret hP rfl dX12_safe_61
  · replace hf := p_t c3 hf
    refine x_iconst hP dX12_safe_8 (v := (-1)) rfl ?_
    cases hf
    exact x_iret hP rfl dX12_safe_9
def f_X12_bridges_L9 : Nat → Int32 → Int32 → Int32 → Mem → Option (Int32 × Mem)
  | 0, _, _, _, _ => none
  | fu + 1, l1, l2, l3, M =>
    (ag M 78 2 (M.1 67 18)).bind fun v3 =>
    if v3 ≤ l3 then
      some (l2, M)
    else
      if (l1 >>> (l3 &&& 31)) &&& (1 : Int32) = 0 then
        lt (l3 + 1 : Int32) fun v6 =>
        f_X12_bridges_L9 fu l1 l2 v6 M
      else
        (ag M 79 20 (((10 : Int32) * (M.1 67 18)) + l3)).bind fun v7 =>
        (f_X12_fillsLit v7 (l1 &&& (((1 : Int32) <<< (l3 &&& 31)) ^^^ (-1 : Int32))) M).bind fun M9 =>
        (ag M9 80 20 (((10 : Int32) * (M9.1 67 18)) + l3)).bind fun v10 =>
        (ag M9 110 7 v10).bind fun v11 =>
        if v11 < (1000 : Int32) then
          lt (l3 + 1 : Int32) fun v13 =>
          f_X12_bridges_L9 fu l1 l2 v13 M9
        else
          lt (l2 ||| ((1 : Int32) <<< (l3 &&& 31)) : Int32) fun v14 =>
          lt (l3 + 1 : Int32) fun v15 =>
          f_X12_bridges_L9 fu l1 v14 v15 M9
def f_X12_bridges (M : Mem) : Option (Int32 × Mem) :=
  (f_X12_litNow M).bind fun t2 =>
  (f_X12_bridges_L9 FU t2.1 (0 : Int32) (0 : Int32) t2.2).bind fun t16 =>
  some (t16.1, t16.2)
set_option maxHeartbeats 1000000 in
set_option maxRecDepth 20000 in
theorem t_X12_bridges_L9 {g : GG} {d : Nat} {P : PT} {res : Option RS} (hd : 4 ≤ d)  (hP : IsM g iX12_bridges d res P) : ∀ (fu : Nat) (l1 : Int32) (l2 : Int32) (l3 : Int32) (M : Mem) (t : Int32 × Mem), f_X12_bridges_L9 fu l1 l2 l3 M = some t → P 95 [none, none, some (.int t.1), none] [] LAY t.2 → P 9 [some (.ref 67), some (.int l1), some (.int l2), some (.int l3)] [] LAY M := by
  have hd1 : 1 ≤ d := by omega
  intro fu
  induction fu with
  | zero => intro l1 l2 l3 M t hf; simp [f_X12_bridges_L9] at hf
  | succ fu ih =>
    intro l1 l2 l3 M t hf hx
    rw [f_X12_bridges_L9] at hf
    refine x_iload_n hP dX12_bridges_9 rfl ?_
    refine x_aload_n hP dX12_bridges_10 rfl ?_
    refine x_getA hP fX12_49 lay67 (r := 78) rfl dX12_bridges_11 ?_
    refine x_aload_n hP dX12_bridges_14 rfl ?_
    refine x_getI hP fX12_251 lay67 dX12_bridges_15 ?_
    obtain ⟨v3, hiv3, hv3, hf⟩ := b_ag hf
    refine y_ald hP lay78 hiv3 hv3 dX12_bridges_18 ?_
    refine x_icmp_ge hP dX12_bridges_19 (tgt := 95) (by decide) (fun c4 => ?_) (fun c4 => ?_)
    · replace hf := p_t c4 hf
      refine x_drop hP [none, none, some (.int l2), none] (And.intro rfl trivial) ?_
      cases hf
      exact hx
    · replace hf := p_f c4 hf
      refine x_iload_n hP dX12_bridges_22 rfl ?_
      refine x_iload_n hP dX12_bridges_23 rfl ?_
      refine x_ishr hP dX12_bridges_24 ?_
      refine x_iconst hP dX12_bridges_25 (v := 1) rfl ?_
      refine x_iand hP dX12_bridges_26 ?_
      refine x_if_ne hP dX12_bridges_27 (tgt := 33) (by decide) (fun c5 => ?_) (fun c5 => ?_)
      · replace hf := p_f c5 hf
        refine x_aload_n hP dX12_bridges_33 rfl ?_
        refine x_aload_n hP dX12_bridges_34 rfl ?_
        refine x_getA hP fX12_52 lay67 (r := 79) rfl dX12_bridges_35 ?_
        refine x_bipush hP dX12_bridges_38 (v := 10) rfl ?_
        refine x_aload_n hP dX12_bridges_40 rfl ?_
        refine x_getI hP fX12_251 lay67 dX12_bridges_41 ?_
        refine x_imul hP dX12_bridges_44 ?_
        refine x_iload_n hP dX12_bridges_45 rfl ?_
        refine x_iadd hP dX12_bridges_46 ?_
        obtain ⟨v7, hiv7, hv7, hf⟩ := b_ag hf
        refine y_ald hP lay79 hiv7 hv7 dX12_bridges_47 ?_
        refine x_iload_n hP dX12_bridges_48 rfl ?_
        refine x_iconst hP dX12_bridges_49 (v := 1) rfl ?_
        refine x_iload_n hP dX12_bridges_50 rfl ?_
        refine x_ishl hP dX12_bridges_51 ?_
        refine x_iconst hP dX12_bridges_52 (v := (-1)) rfl ?_
        refine x_ixor hP dX12_bridges_53 ?_
        refine x_iand hP dX12_bridges_54 ?_
        obtain ⟨M9, hc8, hf⟩ := b_bd hf
        refine y_cvv hP oX12_fillsLit lX12_459 [.int v7, .int (l1 &&& (((1 : Int32) <<< (l3 &&& 31)) ^^^ (-1 : Int32)))] [] rfl rfl rfl lay67 dX12_bridges_55 (t_X12_fillsLit (d := d - 1) (by omega) hc8) (by omega) ?_
        refine x_aload_n hP dX12_bridges_58 rfl ?_
        refine x_getA hP fX12_146 lay67 (r := 110) rfl dX12_bridges_59 ?_
        refine x_aload_n hP dX12_bridges_62 rfl ?_
        refine x_getA hP fX12_55 lay67 (r := 80) rfl dX12_bridges_63 ?_
        refine x_bipush hP dX12_bridges_66 (v := 10) rfl ?_
        refine x_aload_n hP dX12_bridges_68 rfl ?_
        refine x_getI hP fX12_251 lay67 dX12_bridges_69 ?_
        refine x_imul hP dX12_bridges_72 ?_
        refine x_iload_n hP dX12_bridges_73 rfl ?_
        refine x_iadd hP dX12_bridges_74 ?_
        obtain ⟨v10, hiv10, hv10, hf⟩ := b_ag hf
        refine y_ald hP lay80 hiv10 hv10 dX12_bridges_75 ?_
        obtain ⟨v11, hiv11, hv11, hf⟩ := b_ag hf
        refine y_ald hP lay110 hiv11 hv11 dX12_bridges_76 ?_
        refine x_sipush hP dX12_bridges_77 (v := 1000) rfl ?_
        refine x_icmp_lt hP dX12_bridges_80 (tgt := 89) (by decide) (fun c12 => ?_) (fun c12 => ?_)
        · replace hf := p_t c12 hf
          obtain ⟨v13, hv13, hf⟩ := b_lt hf
          refine x_iinc hP (v := v13) (ls2 := [some (.ref 67), some (.int l1), some (.int l2), some (.int v13)]) dX12_bridges_89 rfl (by rw [hv13]; rfl) rfl rfl ?_
          refine x_goto hP dX12_bridges_92 (tgt := 9) (by decide) ?_
          refine x_drop hP [some (.ref 67), some (.int l1), some (.int l2), some (.int v13)] (And.intro rfl (And.intro rfl (And.intro rfl (And.intro rfl trivial)))) ?_
          exact ih _ _ _ _ _ hf hx
        · replace hf := p_f c12 hf
          refine x_iload_n hP dX12_bridges_83 rfl ?_
          refine x_iconst hP dX12_bridges_84 (v := 1) rfl ?_
          refine x_iload_n hP dX12_bridges_85 rfl ?_
          refine x_ishl hP dX12_bridges_86 ?_
          refine x_ior hP dX12_bridges_87 ?_
          obtain ⟨v14, hv14, hf⟩ := b_lt hf
          refine y_nmI hv14 ?_
          refine x_istore_n hP (ls2 := [some (.ref 67), some (.int l1), some (.int v14), some (.int l3)]) dX12_bridges_88 rfl rfl rfl ?_
          obtain ⟨v15, hv15, hf⟩ := b_lt hf
          refine x_iinc hP (v := v15) (ls2 := [some (.ref 67), some (.int l1), some (.int v14), some (.int v15)]) dX12_bridges_89 rfl (by rw [hv15]; rfl) rfl rfl ?_
          refine x_goto hP dX12_bridges_92 (tgt := 9) (by decide) ?_
          refine x_drop hP [some (.ref 67), some (.int l1), some (.int v14), some (.int v15)] (And.intro rfl (And.intro rfl (And.intro rfl (And.intro rfl trivial)))) ?_
          exact ih _ _ _ _ _ hf hx
      · replace hf := p_t c5 hf
        refine x_goto hP dX12_bridges_30 (tgt := 89) (by decide) ?_
        obtain ⟨v6, hv6, hf⟩ := b_lt hf
        refine x_iinc hP (v := v6) (ls2 := [some (.ref 67), some (.int l1), some (.int l2), some (.int v6)]) dX12_bridges_89 rfl (by rw [hv6]; rfl) rfl rfl ?_
        refine x_goto hP dX12_bridges_92 (tgt := 9) (by decide) ?_
        refine x_drop hP [some (.ref 67), some (.int l1), some (.int l2), some (.int v6)] (And.intro rfl (And.intro rfl (And.intro rfl (And.intro rfl trivial)))) ?_
        exact ih _ _ _ _ _ hf hx
set_option maxHeartbeats 1000000 in
set_option maxRecDepth 20000 in
theorem t_X12_bridges {g : GG} {d : Nat} (hd : 4 ≤ d) {M : Mem} {r : Int32} {M' : Mem} (hf : f_X12_bridges M = some (r, M')) : ExM g d iX12_bridges [.ref 67] LAY M (some (.int r), LAY, M') := by
  have hd1 : 1 ≤ d := by omega
  refine ExM.main pnX12 rfl (ls := [some (.ref 67), none, none, none]) rfl ?_
  intro P hP
  rw [f_X12_bridges] at hf
  refine x_aload_n hP dX12_bridges_0 rfl ?_
  obtain ⟨t2, hc1, hf⟩ := b_bd hf
  refine y_cvi hP oX12_litNow lX12_456 [] [] rfl rfl rfl lay67 dX12_bridges_1 (t_X12_litNow (d := d - 1) (by omega) hc1) (by omega) ?_
  refine x_istore_n hP (ls2 := [some (.ref 67), some (.int t2.1), none, none]) dX12_bridges_4 rfl rfl rfl ?_
  refine x_iconst hP dX12_bridges_5 (v := 0) rfl ?_
  refine x_istore_n hP (ls2 := [some (.ref 67), some (.int t2.1), some (.int (0 : Int32)), none]) dX12_bridges_6 rfl rfl rfl ?_
  refine x_iconst hP dX12_bridges_7 (v := 0) rfl ?_
  refine x_istore_n hP (ls2 := [some (.ref 67), some (.int t2.1), some (.int (0 : Int32)), some (.int (0 : Int32))]) dX12_bridges_8 rfl rfl rfl ?_
  refine x_drop hP [some (.ref 67), some (.int t2.1), some (.int (0 : Int32)), some (.int (0 : Int32))] (And.intro rfl (And.intro rfl (And.intro rfl (And.intro rfl trivial)))) ?_
  obtain ⟨t16, hl17, hf⟩ := b_bd hf
  refine t_X12_bridges_L9 hd hP _ _ _ _ _ _ hl17 ?_
  refine x_iload_n hP dX12_bridges_95 rfl ?_
  cases hf
  exact x_iret hP rfl dX12_bridges_96
def f_X12_cut_L35 : Nat → Int32 → Int32 → Int32 → Int32 → Int32 → Mem → Option (Int32 × Mem)
  | 0, _, _, _, _, _, _ => none
  | fu + 1, l1, l2, l3, l4, l5, M =>
    if (1024 : Int32) ≤ l5 then
      some (l4, M)
    else
      if l5 &&& (l3 ^^^ (-1 : Int32)) = 0 then
        (f_X12_bits l5).bind fun v13 =>
        if v13 < l4 then
          (f_X12_fillsLit l1 (l3 &&& (l5 ^^^ (-1 : Int32))) M).bind fun M16 =>
          (ag M16 110 7 l2).bind fun v17 =>
          if v17 < (1000 : Int32) then
            lt (l5 + 1 : Int32) fun v19 =>
            f_X12_cut_L35 fu l1 l2 l3 l4 v19 M16
          else
            (f_X12_bits l5).bind fun v21 =>
            lt (l5 + 1 : Int32) fun v22 =>
            f_X12_cut_L35 fu l1 l2 l3 v21 v22 M16
        else
          lt (l5 + 1 : Int32) fun v23 =>
          f_X12_cut_L35 fu l1 l2 l3 l4 v23 M
      else
        lt (l5 + 1 : Int32) fun v24 =>
        f_X12_cut_L35 fu l1 l2 l3 l4 v24 M
def f_X12_cut (x1 : Int32) (x2 : Int32) (M : Mem) : Option (Int32 × Mem) :=
  (f_X12_isCorner x1 M).bind fun v2 =>
  if v2 = 0 then
    some ((-1 : Int32), M)
  else
    (f_X12_isCorner x2 M).bind fun v5 =>
    if v5 = 0 then
      some ((-1 : Int32), M)
    else
      if x1 = x2 then
        some ((-1 : Int32), M)
      else
        (f_X12_litNow M).bind fun t9 =>
        (f_X12_cut_L35 FU x1 x2 t9.1 (10 : Int32) (0 : Int32) t9.2).bind fun t25 =>
        some (t25.1, t25.2)
set_option maxHeartbeats 1000000 in
set_option maxRecDepth 20000 in
theorem t_X12_cut_L35 {g : GG} {d : Nat} {P : PT} {res : Option RS} (hd : 4 ≤ d)  (hP : IsM g iX12_cut d res P) : ∀ (fu : Nat) (l1 : Int32) (l2 : Int32) (l3 : Int32) (l4 : Int32) (l5 : Int32) (M : Mem) (t : Int32 × Mem), f_X12_cut_L35 fu l1 l2 l3 l4 l5 M = some t → P 101 [none, none, none, none, some (.int t.1), none] [] LAY t.2 → P 35 [some (.ref 67), some (.int l1), some (.int l2), some (.int l3), some (.int l4), some (.int l5)] [] LAY M := by
  have hd1 : 1 ≤ d := by omega
  intro fu
  induction fu with
  | zero => intro l1 l2 l3 l4 l5 M t hf; simp [f_X12_cut_L35] at hf
  | succ fu ih =>
    intro l1 l2 l3 l4 l5 M t hf hx
    rw [f_X12_cut_L35] at hf
    refine x_iload hP dX12_cut_35 rfl ?_
    refine x_sipush hP dX12_cut_37 (v := 1024) rfl ?_
    refine x_icmp_ge hP dX12_cut_40 (tgt := 101) (by decide) (fun c10 => ?_) (fun c10 => ?_)
    · replace hf := p_t c10 hf
      refine x_drop hP [none, none, none, none, some (.int l4), none] (And.intro rfl trivial) ?_
      cases hf
      exact hx
    · replace hf := p_f c10 hf
      refine x_iload hP dX12_cut_43 rfl ?_
      refine x_iload_n hP dX12_cut_45 rfl ?_
      refine x_iconst hP dX12_cut_46 (v := (-1)) rfl ?_
      refine x_ixor hP dX12_cut_47 ?_
      refine x_iand hP dX12_cut_48 ?_
      refine x_if_ne hP dX12_cut_49 (tgt := 95) (by decide) (fun c11 => ?_) (fun c11 => ?_)
      · replace hf := p_f c11 hf
        obtain ⟨v24, hv24, hf⟩ := b_lt hf
        refine x_iinc hP (v := v24) (ls2 := [some (.ref 67), some (.int l1), some (.int l2), some (.int l3), some (.int l4), some (.int v24)]) dX12_cut_95 rfl (by rw [hv24]; rfl) rfl rfl ?_
        refine x_goto hP dX12_cut_98 (tgt := 35) (by decide) ?_
        refine x_drop hP [some (.ref 67), some (.int l1), some (.int l2), some (.int l3), some (.int l4), some (.int v24)] (And.intro rfl (And.intro rfl (And.intro rfl (And.intro rfl (And.intro rfl (And.intro rfl trivial)))))) ?_
        exact ih _ _ _ _ _ _ _ hf hx
      · replace hf := p_t c11 hf
        refine x_iload hP dX12_cut_52 rfl ?_
        obtain ⟨v13, hc12, hf⟩ := b_bd hf
        refine y_csi hP oX12_bits lX12_435 [.int l5] [] rfl rfl rfl dX12_cut_54 (t_X12_bits (d := d - 1) (by omega) hc12) (by omega) ?_
        refine x_iload hP dX12_cut_57 rfl ?_
        refine x_icmp_lt hP dX12_cut_59 (tgt := 65) (by decide) (fun c14 => ?_) (fun c14 => ?_)
        · replace hf := p_t c14 hf
          refine x_aload_n hP dX12_cut_65 rfl ?_
          refine x_iload_n hP dX12_cut_66 rfl ?_
          refine x_iload_n hP dX12_cut_67 rfl ?_
          refine x_iload hP dX12_cut_68 rfl ?_
          refine x_iconst hP dX12_cut_70 (v := (-1)) rfl ?_
          refine x_ixor hP dX12_cut_71 ?_
          refine x_iand hP dX12_cut_72 ?_
          obtain ⟨M16, hc15, hf⟩ := b_bd hf
          refine y_cvv hP oX12_fillsLit lX12_459 [.int l1, .int (l3 &&& (l5 ^^^ (-1 : Int32)))] [] rfl rfl rfl lay67 dX12_cut_73 (t_X12_fillsLit (d := d - 1) (by omega) hc15) (by omega) ?_
          refine x_aload_n hP dX12_cut_76 rfl ?_
          refine x_getA hP fX12_146 lay67 (r := 110) rfl dX12_cut_77 ?_
          refine x_iload_n hP dX12_cut_80 rfl ?_
          obtain ⟨v17, hiv17, hv17, hf⟩ := b_ag hf
          refine y_ald hP lay110 hiv17 hv17 dX12_cut_81 ?_
          refine x_sipush hP dX12_cut_82 (v := 1000) rfl ?_
          refine x_icmp_lt hP dX12_cut_85 (tgt := 95) (by decide) (fun c18 => ?_) (fun c18 => ?_)
          · replace hf := p_t c18 hf
            obtain ⟨v19, hv19, hf⟩ := b_lt hf
            refine x_iinc hP (v := v19) (ls2 := [some (.ref 67), some (.int l1), some (.int l2), some (.int l3), some (.int l4), some (.int v19)]) dX12_cut_95 rfl (by rw [hv19]; rfl) rfl rfl ?_
            refine x_goto hP dX12_cut_98 (tgt := 35) (by decide) ?_
            refine x_drop hP [some (.ref 67), some (.int l1), some (.int l2), some (.int l3), some (.int l4), some (.int v19)] (And.intro rfl (And.intro rfl (And.intro rfl (And.intro rfl (And.intro rfl (And.intro rfl trivial)))))) ?_
            exact ih _ _ _ _ _ _ _ hf hx
          · replace hf := p_f c18 hf
            refine x_iload hP dX12_cut_88 rfl ?_
            obtain ⟨v21, hc20, hf⟩ := b_bd hf
            refine y_csi hP oX12_bits lX12_435 [.int l5] [] rfl rfl rfl dX12_cut_90 (t_X12_bits (d := d - 1) (by omega) hc20) (by omega) ?_
            refine x_istore hP (ls2 := [some (.ref 67), some (.int l1), some (.int l2), some (.int l3), some (.int v21), some (.int l5)]) dX12_cut_93 rfl rfl ?_
            obtain ⟨v22, hv22, hf⟩ := b_lt hf
            refine x_iinc hP (v := v22) (ls2 := [some (.ref 67), some (.int l1), some (.int l2), some (.int l3), some (.int v21), some (.int v22)]) dX12_cut_95 rfl (by rw [hv22]; rfl) rfl rfl ?_
            refine x_goto hP dX12_cut_98 (tgt := 35) (by decide) ?_
            refine x_drop hP [some (.ref 67), some (.int l1), some (.int l2), some (.int l3), some (.int v21), some (.int v22)] (And.intro rfl (And.intro rfl (And.intro rfl (And.intro rfl (And.intro rfl (And.intro rfl trivial)))))) ?_
            exact ih _ _ _ _ _ _ _ hf hx
        · replace hf := p_f c14 hf
          refine x_goto hP dX12_cut_62 (tgt := 95) (by decide) ?_
          obtain ⟨v23, hv23, hf⟩ := b_lt hf
          refine x_iinc hP (v := v23) (ls2 := [some (.ref 67), some (.int l1), some (.int l2), some (.int l3), some (.int l4), some (.int v23)]) dX12_cut_95 rfl (by rw [hv23]; rfl) rfl rfl ?_
          refine x_goto hP dX12_cut_98 (tgt := 35) (by decide) ?_
          refine x_drop hP [some (.ref 67), some (.int l1), some (.int l2), some (.int l3), some (.int l4), some (.int v23)] (And.intro rfl (And.intro rfl (And.intro rfl (And.intro rfl (And.intro rfl (And.intro rfl trivial)))))) ?_
          exact ih _ _ _ _ _ _ _ hf hx
set_option maxHeartbeats 1000000 in
set_option maxRecDepth 20000 in
theorem t_X12_cut {g : GG} {d : Nat} (hd : 4 ≤ d) {x1 : Int32} {x2 : Int32} {M : Mem} {r : Int32} {M' : Mem} (hf : f_X12_cut x1 x2 M = some (r, M')) : ExM g d iX12_cut [.ref 67, .int x1, .int x2] LAY M (some (.int r), LAY, M') := by
  have hd1 : 1 ≤ d := by omega
  refine ExM.main pnX12 rfl (ls := [some (.ref 67), some (.int x1), some (.int x2), none, none, none]) rfl ?_
  intro P hP
  rw [f_X12_cut] at hf
  refine x_aload_n hP dX12_cut_0 rfl ?_
  refine x_iload_n hP dX12_cut_1 rfl ?_
  obtain ⟨v2, hc1, hf⟩ := b_bd hf
  refine y_cvi hP oX12_isCorner lX12_392 [.int x1] [] rfl rfl rfl lay67 dX12_cut_2 (t_X12_isCorner (d := d - 1) (by omega) hc1) (by omega) ?_
  refine x_if_eq hP dX12_cut_5 (tgt := 21) (by decide) (fun c3 => ?_) (fun c3 => ?_)
  · replace hf := p_t c3 hf
    refine x_iconst hP dX12_cut_21 (v := (-1)) rfl ?_
    cases hf
    exact x_iret hP rfl dX12_cut_22
  · replace hf := p_f c3 hf
    refine x_aload_n hP dX12_cut_8 rfl ?_
    refine x_iload_n hP dX12_cut_9 rfl ?_
    obtain ⟨v5, hc4, hf⟩ := b_bd hf
    refine y_cvi hP oX12_isCorner lX12_392 [.int x2] [] rfl rfl rfl lay67 dX12_cut_10 (t_X12_isCorner (d := d - 1) (by omega) hc4) (by omega) ?_
    refine x_if_eq hP dX12_cut_13 (tgt := 21) (by decide) (fun c6 => ?_) (fun c6 => ?_)
    · replace hf := p_t c6 hf
      refine x_iconst hP dX12_cut_21 (v := (-1)) rfl ?_
      cases hf
      exact x_iret hP rfl dX12_cut_22
    · replace hf := p_f c6 hf
      refine x_iload_n hP dX12_cut_16 rfl ?_
      refine x_iload_n hP dX12_cut_17 rfl ?_
      refine x_icmp_ne hP dX12_cut_18 (tgt := 23) (by decide) (fun c7 => ?_) (fun c7 => ?_)
      · replace hf := p_f c7 hf
        refine x_aload_n hP dX12_cut_23 rfl ?_
        obtain ⟨t9, hc8, hf⟩ := b_bd hf
        refine y_cvi hP oX12_litNow lX12_456 [] [] rfl rfl rfl lay67 dX12_cut_24 (t_X12_litNow (d := d - 1) (by omega) hc8) (by omega) ?_
        refine x_istore_n hP (ls2 := [some (.ref 67), some (.int x1), some (.int x2), some (.int t9.1), none, none]) dX12_cut_27 rfl rfl rfl ?_
        refine x_bipush hP dX12_cut_28 (v := 10) rfl ?_
        refine x_istore hP (ls2 := [some (.ref 67), some (.int x1), some (.int x2), some (.int t9.1), some (.int (10 : Int32)), none]) dX12_cut_30 rfl rfl ?_
        refine x_iconst hP dX12_cut_32 (v := 0) rfl ?_
        refine x_istore hP (ls2 := [some (.ref 67), some (.int x1), some (.int x2), some (.int t9.1), some (.int (10 : Int32)), some (.int (0 : Int32))]) dX12_cut_33 rfl rfl ?_
        refine x_drop hP [some (.ref 67), some (.int x1), some (.int x2), some (.int t9.1), some (.int (10 : Int32)), some (.int (0 : Int32))] (And.intro rfl (And.intro rfl (And.intro rfl (And.intro rfl (And.intro rfl (And.intro rfl trivial)))))) ?_
        obtain ⟨t25, hl26, hf⟩ := b_bd hf
        refine t_X12_cut_L35 hd hP _ _ _ _ _ _ _ _ hl26 ?_
        refine x_iload hP dX12_cut_101 rfl ?_
        cases hf
        exact x_iret hP rfl dX12_cut_103
      · replace hf := p_t c7 hf
        refine x_iconst hP dX12_cut_21 (v := (-1)) rfl ?_
        cases hf
        exact x_iret hP rfl dX12_cut_22
def f_X12_round_L59 : Nat → Int32 → Int32 → Int32 → Mem → Option (Mem)
  | 0, _, _, _, _ => none
  | fu + 1, l1, l2, l3, M =>
    if (7 : Int32) ≤ l3 then
      some M
    else
      (ag M 110 7 l3).bind fun v15 =>
      (pg M 112 49 (((7 : Int32) * l2) + l3) v15).bind fun M16 =>
      lt (l3 + 1 : Int32) fun v17 =>
      f_X12_round_L59 fu l1 l2 v17 M16
def f_X12_round_L23 : Nat → Int32 → Int32 → Mem → Option (Int32 × Mem)
  | 0, _, _, _ => none
  | fu + 1, l1, l2, M =>
    (ag M 77 2 (M.1 67 18)).bind fun v5 =>
    if v5 ≤ l2 then
      some (l1, M)
    else
      (f_X12_outAt l2 M).bind fun v8 =>
      lt (
        if v8 = 0 then
          l1
        else
          lt (l1 ||| ((1 : Int32) <<< (l2 &&& 31)) : Int32) fun v11 =>
          v11
       : Int32) fun t9 =>
      (f_X12_fillsFar l2 (0 : Int32) (0 : Int32) M).bind fun M13 =>
      (f_X12_round_L59 FU t9 l2 (0 : Int32) M13).bind fun t18 =>
      lt (l2 + 1 : Int32) fun v20 =>
      f_X12_round_L23 fu t9 v20 t18
def f_X12_round_L104 : Nat → Int32 → Int32 → Int32 → Mem → Option (Mem)
  | 0, _, _, _, _ => none
  | fu + 1, l1, l2, l3, M =>
    if (896 : Int32) ≤ l3 then
      some M
    else
      (pg M 111 896 l3 (1000 : Int32)).bind fun M25 =>
      lt (l3 + 1 : Int32) fun v26 =>
      f_X12_round_L104 fu l1 l2 v26 M25
def f_X12_round_L204 : Nat → Int32 → Int32 → Int32 → Int32 → Mem → Option (Mem)
  | 0, _, _, _, _, _ => none
  | fu + 1, l1, l3, l4, l5, M =>
    (ag M 77 2 (M.1 67 18)).bind fun v38 =>
    if v38 ≤ l5 then
      some M
    else
      lt (((7 : Int32) * ((l4 / (7 : Int32)) ||| ((1 : Int32) <<< (l5 &&& 31)))) + l5 : Int32) fun v40 =>
      (ag M 111 896 l4).bind fun v41 =>
      (ag M 112 49 (((7 : Int32) * (l4 - l4 / (7 : Int32) * (7 : Int32))) + l5)).bind fun v42 =>
      lt (v41 + v42 : Int32) fun v43 =>
      if (l1 &&& ((l4 / (7 : Int32)) ^^^ (-1 : Int32))) &&& ((1 : Int32) <<< (l5 &&& 31)) = 0 then
        lt (l5 + 1 : Int32) fun v45 =>
        f_X12_round_L204 fu l1 l3 l4 v45 M
      else
        (ag M 111 896 v40).bind fun v46 =>
        if v46 ≤ v43 then
          lt (l5 + 1 : Int32) fun v48 =>
          f_X12_round_L204 fu l1 l3 l4 v48 M
        else
          (pg M 111 896 v40 v43).bind fun M49 =>
          lt (l5 + 1 : Int32) fun v50 =>
          f_X12_round_L204 fu l1 l3 l4 v50 M49
def f_X12_round_L149 : Nat → Int32 → Int32 → Int32 → Mem → Option (Int32 × Mem)
  | 0, _, _, _, _ => none
  | fu + 1, l1, l3, l4, M =>
    if (896 : Int32) ≤ l4 then
      some (l3, M)
    else
      (ag M 111 896 l4).bind fun v31 =>
      if v31 < (1000 : Int32) then
        (
          if l4 / (7 : Int32) = l1 then
            (ag M 111 896 l4).bind fun v35 =>
            if l3 ≤ v35 then
              some l3
            else
              (ag M 111 896 l4).bind fun v37 =>
              some v37
          else
            some l3
        ).bind fun t33 =>
        (f_X12_round_L204 FU l1 t33 l4 (0 : Int32) M).bind fun t51 =>
        lt (l4 + 1 : Int32) fun v53 =>
        f_X12_round_L149 fu l1 t33 v53 t51
      else
        lt (l4 + 1 : Int32) fun v54 =>
        f_X12_round_L149 fu l1 l3 v54 M
def f_X12_round (M : Mem) : Option (Int32 × Mem) :=
  (ag M 77 2 (M.1 67 18)).bind fun v1 =>
  if v1 = 0 then
    some ((-2 : Int32), M)
  else
    (f_X12_copies M).bind fun M4 =>
    (f_X12_round_L23 FU (0 : Int32) (0 : Int32) M4).bind fun t21 =>
    (ag t21.2 104 48 (46 : Int32)).bind fun v23 =>
    (f_X12_round_L104 FU t21.1 v23 (0 : Int32) t21.2).bind fun t27 =>
    (pg t27 111 896 (((7 : Int32) * (t21.1 &&& ((1 : Int32) <<< (v23 &&& 31)))) + v23) (0 : Int32)).bind fun M29 =>
    (f_X12_round_L149 FU t21.1 (1000 : Int32) (0 : Int32) M29).bind fun t55 =>
    if t55.1 < (1000 : Int32) then
      some (t55.1, t55.2)
    else
      some ((-2 : Int32), t55.2)
set_option maxHeartbeats 1000000 in
set_option maxRecDepth 20000 in
theorem t_X12_round_L59 {g : GG} {d : Nat} {P : PT} {res : Option RS} (hd : 2 ≤ d)  (hP : IsM g iX12_round d res P) : ∀ (fu : Nat) (l1 : Int32) (l2 : Int32) (l3 : Int32) (M : Mem) (t : Mem), f_X12_round_L59 fu l1 l2 l3 M = some t → P 88 [some (.ref 67), some (.int l1), some (.int l2), none, none, none, none, none] [] LAY t → P 59 [some (.ref 67), some (.int l1), some (.int l2), some (.int l3), none, none, none, none] [] LAY M := by
  have hd1 : 1 ≤ d := by omega
  intro fu
  induction fu with
  | zero => intro l1 l2 l3 M t hf; simp [f_X12_round_L59] at hf
  | succ fu ih =>
    intro l1 l2 l3 M t hf hx
    rw [f_X12_round_L59] at hf
    refine x_iload_n hP dX12_round_59 rfl ?_
    refine x_bipush hP dX12_round_60 (v := 7) rfl ?_
    refine x_icmp_ge hP dX12_round_62 (tgt := 88) (by decide) (fun c14 => ?_) (fun c14 => ?_)
    · replace hf := p_t c14 hf
      refine x_drop hP [some (.ref 67), some (.int l1), some (.int l2), none, none, none, none, none] (And.intro rfl (And.intro rfl (And.intro rfl trivial))) ?_
      cases hf
      exact hx
    · replace hf := p_f c14 hf
      refine x_aload_n hP dX12_round_65 rfl ?_
      refine x_getA hP fX12_152 lay67 (r := 112) rfl dX12_round_66 ?_
      refine x_bipush hP dX12_round_69 (v := 7) rfl ?_
      refine x_iload_n hP dX12_round_71 rfl ?_
      refine x_imul hP dX12_round_72 ?_
      refine x_iload_n hP dX12_round_73 rfl ?_
      refine x_iadd hP dX12_round_74 ?_
      refine x_aload_n hP dX12_round_75 rfl ?_
      refine x_getA hP fX12_146 lay67 (r := 110) rfl dX12_round_76 ?_
      refine x_iload_n hP dX12_round_79 rfl ?_
      obtain ⟨v15, hiv15, hv15, hf⟩ := b_ag hf
      refine y_ald hP lay110 hiv15 hv15 dX12_round_80 ?_
      obtain ⟨M16, hiM16, hM16, hf⟩ := b_pg hf
      refine y_ast hP lay112 hiM16 hM16 dX12_round_81 ?_
      obtain ⟨v17, hv17, hf⟩ := b_lt hf
      refine x_iinc hP (v := v17) (ls2 := [some (.ref 67), some (.int l1), some (.int l2), some (.int v17), none, none, none, none]) dX12_round_82 rfl (by rw [hv17]; rfl) rfl rfl ?_
      refine x_goto hP dX12_round_85 (tgt := 59) (by decide) ?_
      refine x_drop hP [some (.ref 67), some (.int l1), some (.int l2), some (.int v17), none, none, none, none] (And.intro rfl (And.intro rfl (And.intro rfl (And.intro rfl trivial)))) ?_
      exact ih _ _ _ _ _ hf hx
set_option maxHeartbeats 1000000 in
set_option maxRecDepth 20000 in
theorem t_X12_round_L23 {g : GG} {d : Nat} {P : PT} {res : Option RS} (hd : 2 ≤ d)  (hP : IsM g iX12_round d res P) : ∀ (fu : Nat) (l1 : Int32) (l2 : Int32) (M : Mem) (t : Int32 × Mem), f_X12_round_L23 fu l1 l2 M = some t → P 94 [some (.ref 67), some (.int t.1), none, none, none, none, none, none] [] LAY t.2 → P 23 [some (.ref 67), some (.int l1), some (.int l2), none, none, none, none, none] [] LAY M := by
  have hd1 : 1 ≤ d := by omega
  intro fu
  induction fu with
  | zero => intro l1 l2 M t hf; simp [f_X12_round_L23] at hf
  | succ fu ih =>
    intro l1 l2 M t hf hx
    rw [f_X12_round_L23] at hf
    refine x_iload_n hP dX12_round_23 rfl ?_
    refine x_aload_n hP dX12_round_24 rfl ?_
    refine x_getA hP fX12_46 lay67 (r := 77) rfl dX12_round_25 ?_
    refine x_aload_n hP dX12_round_28 rfl ?_
    refine x_getI hP fX12_251 lay67 dX12_round_29 ?_
    obtain ⟨v5, hiv5, hv5, hf⟩ := b_ag hf
    refine y_ald hP lay77 hiv5 hv5 dX12_round_32 ?_
    refine x_icmp_ge hP dX12_round_33 (tgt := 94) (by decide) (fun c6 => ?_) (fun c6 => ?_)
    · replace hf := p_t c6 hf
      refine x_drop hP [some (.ref 67), some (.int l1), none, none, none, none, none, none] (And.intro rfl (And.intro rfl trivial)) ?_
      cases hf
      exact hx
    · replace hf := p_f c6 hf
      refine x_aload_n hP dX12_round_36 rfl ?_
      refine x_iload_n hP dX12_round_37 rfl ?_
      obtain ⟨v8, hc7, hf⟩ := b_bd hf
      refine y_cvi hP oX12_outAt lX12_395 [.int l2] [] rfl rfl rfl lay67 dX12_round_38 (t_X12_outAt (d := d - 1) (by omega) hc7) (by omega) ?_
      obtain ⟨t9, het9, hf⟩ := b_lt hf
      have hj9 : P 50 [some (.ref 67), some (.int t9), some (.int l2), none, none, none, none, none] [] LAY M := by
        refine x_aload_n hP dX12_round_50 rfl ?_
        refine x_iload_n hP dX12_round_51 rfl ?_
        refine x_iconst hP dX12_round_52 (v := 0) rfl ?_
        refine x_iconst hP dX12_round_53 (v := 0) rfl ?_
        obtain ⟨M13, hc12, hf⟩ := b_bd hf
        refine y_cvv hP oX12_fillsFar lX12_450 [.int l2, .int (0 : Int32), .int (0 : Int32)] [] rfl rfl rfl lay67 dX12_round_54 (t_X12_fillsFar (d := d - 1) (by omega) hc12) (by omega) ?_
        refine x_iconst hP dX12_round_57 (v := 0) rfl ?_
        refine x_istore_n hP (ls2 := [some (.ref 67), some (.int t9), some (.int l2), some (.int (0 : Int32)), none, none, none, none]) dX12_round_58 rfl rfl rfl ?_
        refine x_drop hP [some (.ref 67), some (.int t9), some (.int l2), some (.int (0 : Int32)), none, none, none, none] (And.intro rfl (And.intro rfl (And.intro rfl (And.intro rfl trivial)))) ?_
        obtain ⟨t18, hl19, hf⟩ := b_bd hf
        refine t_X12_round_L59 hd hP _ _ _ _ _ _ hl19 ?_
        obtain ⟨v20, hv20, hf⟩ := b_lt hf
        refine x_iinc hP (v := v20) (ls2 := [some (.ref 67), some (.int t9), some (.int v20), none, none, none, none, none]) dX12_round_88 rfl (by rw [hv20]; rfl) rfl rfl ?_
        refine x_goto hP dX12_round_91 (tgt := 23) (by decide) ?_
        refine x_drop hP [some (.ref 67), some (.int t9), some (.int v20), none, none, none, none, none] (And.intro rfl (And.intro rfl (And.intro rfl trivial))) ?_
        exact ih _ _ _ _ hf hx
      clear hf
      have hf := het9
      clear het9
      refine x_if_eq hP dX12_round_41 (tgt := 50) (by decide) (fun c10 => ?_) (fun c10 => ?_)
      · replace hf := e_t c10 hf
        refine x_drop hP [some (.ref 67), some (.int l1), some (.int l2), none, none, none, none, none] (And.intro rfl (And.intro rfl (And.intro rfl trivial))) ?_
        subst hf
        exact hj9
      · replace hf := e_f c10 hf
        refine x_iload_n hP dX12_round_44 rfl ?_
        refine x_iconst hP dX12_round_45 (v := 1) rfl ?_
        refine x_iload_n hP dX12_round_46 rfl ?_
        refine x_ishl hP dX12_round_47 ?_
        refine x_ior hP dX12_round_48 ?_
        obtain ⟨v11, hv11, hf⟩ := e_lt hf
        refine y_nmI hv11 ?_
        refine x_istore_n hP (ls2 := [some (.ref 67), some (.int v11), some (.int l2), none, none, none, none, none]) dX12_round_49 rfl rfl rfl ?_
        refine x_drop hP [some (.ref 67), some (.int v11), some (.int l2), none, none, none, none, none] (And.intro rfl (And.intro rfl (And.intro rfl trivial))) ?_
        subst hf
        exact hj9
set_option maxHeartbeats 1000000 in
set_option maxRecDepth 20000 in
theorem t_X12_round_L104 {g : GG} {d : Nat} {P : PT} {res : Option RS} (hd : 2 ≤ d)  (hP : IsM g iX12_round d res P) : ∀ (fu : Nat) (l1 : Int32) (l2 : Int32) (l3 : Int32) (M : Mem) (t : Mem), f_X12_round_L104 fu l1 l2 l3 M = some t → P 126 [some (.ref 67), some (.int l1), some (.int l2), none, none, none, none, none] [] LAY t → P 104 [some (.ref 67), some (.int l1), some (.int l2), some (.int l3), none, none, none, none] [] LAY M := by
  have hd1 : 1 ≤ d := by omega
  intro fu
  induction fu with
  | zero => intro l1 l2 l3 M t hf; simp [f_X12_round_L104] at hf
  | succ fu ih =>
    intro l1 l2 l3 M t hf hx
    rw [f_X12_round_L104] at hf
    refine x_iload_n hP dX12_round_104 rfl ?_
    refine x_sipush hP dX12_round_105 (v := 896) rfl ?_
    refine x_icmp_ge hP dX12_round_108 (tgt := 126) (by decide) (fun c24 => ?_) (fun c24 => ?_)
    · replace hf := p_t c24 hf
      refine x_drop hP [some (.ref 67), some (.int l1), some (.int l2), none, none, none, none, none] (And.intro rfl (And.intro rfl (And.intro rfl trivial))) ?_
      cases hf
      exact hx
    · replace hf := p_f c24 hf
      refine x_aload_n hP dX12_round_111 rfl ?_
      refine x_getA hP fX12_149 lay67 (r := 111) rfl dX12_round_112 ?_
      refine x_iload_n hP dX12_round_115 rfl ?_
      refine x_sipush hP dX12_round_116 (v := 1000) rfl ?_
      obtain ⟨M25, hiM25, hM25, hf⟩ := b_pg hf
      refine y_ast hP lay111 hiM25 hM25 dX12_round_119 ?_
      obtain ⟨v26, hv26, hf⟩ := b_lt hf
      refine x_iinc hP (v := v26) (ls2 := [some (.ref 67), some (.int l1), some (.int l2), some (.int v26), none, none, none, none]) dX12_round_120 rfl (by rw [hv26]; rfl) rfl rfl ?_
      refine x_goto hP dX12_round_123 (tgt := 104) (by decide) ?_
      refine x_drop hP [some (.ref 67), some (.int l1), some (.int l2), some (.int v26), none, none, none, none] (And.intro rfl (And.intro rfl (And.intro rfl (And.intro rfl trivial)))) ?_
      exact ih _ _ _ _ _ hf hx
set_option maxHeartbeats 1000000 in
set_option maxRecDepth 20000 in
theorem t_X12_round_L204 {g : GG} {d : Nat} {P : PT} {res : Option RS} (hd : 2 ≤ d)  (hP : IsM g iX12_round d res P) : ∀ (fu : Nat) (l1 : Int32) (l3 : Int32) (l4 : Int32) (l5 : Int32) (M : Mem) (t : Mem), f_X12_round_L204 fu l1 l3 l4 l5 M = some t → P 306 [some (.ref 67), some (.int l1), none, some (.int l3), some (.int l4), none, none, none] [] LAY t → P 204 [some (.ref 67), some (.int l1), none, some (.int l3), some (.int l4), some (.int l5), none, none] [] LAY M := by
  have hd1 : 1 ≤ d := by omega
  intro fu
  induction fu with
  | zero => intro l1 l3 l4 l5 M t hf; simp [f_X12_round_L204] at hf
  | succ fu ih =>
    intro l1 l3 l4 l5 M t hf hx
    rw [f_X12_round_L204] at hf
    refine x_iload hP dX12_round_204 rfl ?_
    refine x_aload_n hP dX12_round_206 rfl ?_
    refine x_getA hP fX12_46 lay67 (r := 77) rfl dX12_round_207 ?_
    refine x_aload_n hP dX12_round_210 rfl ?_
    refine x_getI hP fX12_251 lay67 dX12_round_211 ?_
    obtain ⟨v38, hiv38, hv38, hf⟩ := b_ag hf
    refine y_ald hP lay77 hiv38 hv38 dX12_round_214 ?_
    refine x_icmp_ge hP dX12_round_215 (tgt := 306) (by decide) (fun c39 => ?_) (fun c39 => ?_)
    · replace hf := p_t c39 hf
      refine x_drop hP [some (.ref 67), some (.int l1), none, some (.int l3), some (.int l4), none, none, none] (And.intro rfl (And.intro rfl (And.intro rfl (And.intro rfl trivial)))) ?_
      cases hf
      exact hx
    · replace hf := p_f c39 hf
      refine x_bipush hP dX12_round_218 (v := 7) rfl ?_
      refine x_iload hP dX12_round_220 rfl ?_
      refine x_bipush hP dX12_round_222 (v := 7) rfl ?_
      refine x_idiv hP dX12_round_224 (by decide) ?_
      refine x_iconst hP dX12_round_225 (v := 1) rfl ?_
      refine x_iload hP dX12_round_226 rfl ?_
      refine x_ishl hP dX12_round_228 ?_
      refine x_ior hP dX12_round_229 ?_
      refine x_imul hP dX12_round_230 ?_
      refine x_iload hP dX12_round_231 rfl ?_
      refine x_iadd hP dX12_round_233 ?_
      obtain ⟨v40, hv40, hf⟩ := b_lt hf
      refine y_nmI hv40 ?_
      refine x_istore hP (ls2 := [some (.ref 67), some (.int l1), none, some (.int l3), some (.int l4), some (.int l5), some (.int v40), none]) dX12_round_234 rfl rfl ?_
      refine x_aload_n hP dX12_round_236 rfl ?_
      refine x_getA hP fX12_149 lay67 (r := 111) rfl dX12_round_237 ?_
      refine x_iload hP dX12_round_240 rfl ?_
      obtain ⟨v41, hiv41, hv41, hf⟩ := b_ag hf
      refine y_ald hP lay111 hiv41 hv41 dX12_round_242 ?_
      refine x_aload_n hP dX12_round_243 rfl ?_
      refine x_getA hP fX12_152 lay67 (r := 112) rfl dX12_round_244 ?_
      refine x_bipush hP dX12_round_247 (v := 7) rfl ?_
      refine x_iload hP dX12_round_249 rfl ?_
      refine x_bipush hP dX12_round_251 (v := 7) rfl ?_
      refine x_irem hP dX12_round_253 (by decide) ?_
      refine x_imul hP dX12_round_254 ?_
      refine x_iload hP dX12_round_255 rfl ?_
      refine x_iadd hP dX12_round_257 ?_
      obtain ⟨v42, hiv42, hv42, hf⟩ := b_ag hf
      refine y_ald hP lay112 hiv42 hv42 dX12_round_258 ?_
      refine x_iadd hP dX12_round_259 ?_
      obtain ⟨v43, hv43, hf⟩ := b_lt hf
      refine y_nmI hv43 ?_
      refine x_istore hP (ls2 := [some (.ref 67), some (.int l1), none, some (.int l3), some (.int l4), some (.int l5), some (.int v40), some (.int v43)]) dX12_round_260 rfl rfl ?_
      refine x_iload_n hP dX12_round_262 rfl ?_
      refine x_iload hP dX12_round_263 rfl ?_
      refine x_bipush hP dX12_round_265 (v := 7) rfl ?_
      refine x_idiv hP dX12_round_267 (by decide) ?_
      refine x_iconst hP dX12_round_268 (v := (-1)) rfl ?_
      refine x_ixor hP dX12_round_269 ?_
      refine x_iand hP dX12_round_270 ?_
      refine x_iconst hP dX12_round_271 (v := 1) rfl ?_
      refine x_iload hP dX12_round_272 rfl ?_
      refine x_ishl hP dX12_round_274 ?_
      refine x_iand hP dX12_round_275 ?_
      refine x_if_eq hP dX12_round_276 (tgt := 300) (by decide) (fun c44 => ?_) (fun c44 => ?_)
      · replace hf := p_t c44 hf
        obtain ⟨v45, hv45, hf⟩ := b_lt hf
        refine x_iinc hP (v := v45) (ls2 := [some (.ref 67), some (.int l1), none, some (.int l3), some (.int l4), some (.int v45), some (.int v40), some (.int v43)]) dX12_round_300 rfl (by rw [hv45]; rfl) rfl rfl ?_
        refine x_goto hP dX12_round_303 (tgt := 204) (by decide) ?_
        refine x_drop hP [some (.ref 67), some (.int l1), none, some (.int l3), some (.int l4), some (.int v45), none, none] (And.intro rfl (And.intro rfl (And.intro rfl (And.intro rfl (And.intro rfl trivial))))) ?_
        exact ih _ _ _ _ _ _ hf hx
      · replace hf := p_f c44 hf
        refine x_iload hP dX12_round_279 rfl ?_
        refine x_aload_n hP dX12_round_281 rfl ?_
        refine x_getA hP fX12_149 lay67 (r := 111) rfl dX12_round_282 ?_
        refine x_iload hP dX12_round_285 rfl ?_
        obtain ⟨v46, hiv46, hv46, hf⟩ := b_ag hf
        refine y_ald hP lay111 hiv46 hv46 dX12_round_287 ?_
        refine x_icmp_ge hP dX12_round_288 (tgt := 300) (by decide) (fun c47 => ?_) (fun c47 => ?_)
        · replace hf := p_t c47 hf
          obtain ⟨v48, hv48, hf⟩ := b_lt hf
          refine x_iinc hP (v := v48) (ls2 := [some (.ref 67), some (.int l1), none, some (.int l3), some (.int l4), some (.int v48), some (.int v40), some (.int v43)]) dX12_round_300 rfl (by rw [hv48]; rfl) rfl rfl ?_
          refine x_goto hP dX12_round_303 (tgt := 204) (by decide) ?_
          refine x_drop hP [some (.ref 67), some (.int l1), none, some (.int l3), some (.int l4), some (.int v48), none, none] (And.intro rfl (And.intro rfl (And.intro rfl (And.intro rfl (And.intro rfl trivial))))) ?_
          exact ih _ _ _ _ _ _ hf hx
        · replace hf := p_f c47 hf
          refine x_aload_n hP dX12_round_291 rfl ?_
          refine x_getA hP fX12_149 lay67 (r := 111) rfl dX12_round_292 ?_
          refine x_iload hP dX12_round_295 rfl ?_
          refine x_iload hP dX12_round_297 rfl ?_
          obtain ⟨M49, hiM49, hM49, hf⟩ := b_pg hf
          refine y_ast hP lay111 hiM49 hM49 dX12_round_299 ?_
          obtain ⟨v50, hv50, hf⟩ := b_lt hf
          refine x_iinc hP (v := v50) (ls2 := [some (.ref 67), some (.int l1), none, some (.int l3), some (.int l4), some (.int v50), some (.int v40), some (.int v43)]) dX12_round_300 rfl (by rw [hv50]; rfl) rfl rfl ?_
          refine x_goto hP dX12_round_303 (tgt := 204) (by decide) ?_
          refine x_drop hP [some (.ref 67), some (.int l1), none, some (.int l3), some (.int l4), some (.int v50), none, none] (And.intro rfl (And.intro rfl (And.intro rfl (And.intro rfl (And.intro rfl trivial))))) ?_
          exact ih _ _ _ _ _ _ hf hx
set_option maxHeartbeats 1000000 in
set_option maxRecDepth 20000 in
theorem t_X12_round_L149 {g : GG} {d : Nat} {P : PT} {res : Option RS} (hd : 2 ≤ d)  (hP : IsM g iX12_round d res P) : ∀ (fu : Nat) (l1 : Int32) (l3 : Int32) (l4 : Int32) (M : Mem) (t : Int32 × Mem), f_X12_round_L149 fu l1 l3 l4 M = some t → P 312 [none, none, none, some (.int t.1), none, none, none, none] [] LAY t.2 → P 149 [some (.ref 67), some (.int l1), none, some (.int l3), some (.int l4), none, none, none] [] LAY M := by
  have hd1 : 1 ≤ d := by omega
  intro fu
  induction fu with
  | zero => intro l1 l3 l4 M t hf; simp [f_X12_round_L149] at hf
  | succ fu ih =>
    intro l1 l3 l4 M t hf hx
    rw [f_X12_round_L149] at hf
    refine x_iload hP dX12_round_149 rfl ?_
    refine x_sipush hP dX12_round_151 (v := 896) rfl ?_
    refine x_icmp_ge hP dX12_round_154 (tgt := 312) (by decide) (fun c30 => ?_) (fun c30 => ?_)
    · replace hf := p_t c30 hf
      refine x_drop hP [none, none, none, some (.int l3), none, none, none, none] (And.intro rfl trivial) ?_
      cases hf
      exact hx
    · replace hf := p_f c30 hf
      refine x_aload_n hP dX12_round_157 rfl ?_
      refine x_getA hP fX12_149 lay67 (r := 111) rfl dX12_round_158 ?_
      refine x_iload hP dX12_round_161 rfl ?_
      obtain ⟨v31, hiv31, hv31, hf⟩ := b_ag hf
      refine y_ald hP lay111 hiv31 hv31 dX12_round_163 ?_
      refine x_sipush hP dX12_round_164 (v := 1000) rfl ?_
      refine x_icmp_lt hP dX12_round_167 (tgt := 173) (by decide) (fun c32 => ?_) (fun c32 => ?_)
      · replace hf := p_t c32 hf
        refine x_iload hP dX12_round_173 rfl ?_
        refine x_bipush hP dX12_round_175 (v := 7) rfl ?_
        refine x_idiv hP dX12_round_177 (by decide) ?_
        refine x_iload_n hP dX12_round_178 rfl ?_
        obtain ⟨t33, het33, hf⟩ := b_bd hf
        have hj33 : P 201 [some (.ref 67), some (.int l1), none, some (.int t33), some (.int l4), none, none, none] [] LAY M := by
          refine x_iconst hP dX12_round_201 (v := 0) rfl ?_
          refine x_istore hP (ls2 := [some (.ref 67), some (.int l1), none, some (.int t33), some (.int l4), some (.int (0 : Int32)), none, none]) dX12_round_202 rfl rfl ?_
          refine x_drop hP [some (.ref 67), some (.int l1), none, some (.int t33), some (.int l4), some (.int (0 : Int32)), none, none] (And.intro rfl (And.intro rfl (And.intro rfl (And.intro rfl (And.intro rfl trivial))))) ?_
          obtain ⟨t51, hl52, hf⟩ := b_bd hf
          refine t_X12_round_L204 hd hP _ _ _ _ _ _ _ hl52 ?_
          obtain ⟨v53, hv53, hf⟩ := b_lt hf
          refine x_iinc hP (v := v53) (ls2 := [some (.ref 67), some (.int l1), none, some (.int t33), some (.int v53), none, none, none]) dX12_round_306 rfl (by rw [hv53]; rfl) rfl rfl ?_
          refine x_goto hP dX12_round_309 (tgt := 149) (by decide) ?_
          refine x_drop hP [some (.ref 67), some (.int l1), none, some (.int t33), some (.int v53), none, none, none] (And.intro rfl (And.intro rfl (And.intro rfl (And.intro rfl trivial)))) ?_
          exact ih _ _ _ _ _ hf hx
        clear hf
        have hf := het33
        clear het33
        refine x_icmp_ne hP dX12_round_179 (tgt := 201) (by decide) (fun c34 => ?_) (fun c34 => ?_)
        · replace hf := p_f c34 hf
          refine x_drop hP [some (.ref 67), some (.int l1), none, some (.int l3), some (.int l4), none, none, none] (And.intro rfl (And.intro rfl (And.intro rfl (And.intro rfl trivial)))) ?_
          cases hf
          exact hj33
        · replace hf := p_t c34 hf
          refine x_aload_n hP dX12_round_182 rfl ?_
          refine x_getA hP fX12_149 lay67 (r := 111) rfl dX12_round_183 ?_
          refine x_iload hP dX12_round_186 rfl ?_
          obtain ⟨v35, hiv35, hv35, hf⟩ := b_ag hf
          refine y_ald hP lay111 hiv35 hv35 dX12_round_188 ?_
          refine x_iload_n hP dX12_round_189 rfl ?_
          refine x_icmp_ge hP dX12_round_190 (tgt := 201) (by decide) (fun c36 => ?_) (fun c36 => ?_)
          · replace hf := p_t c36 hf
            refine x_drop hP [some (.ref 67), some (.int l1), none, some (.int l3), some (.int l4), none, none, none] (And.intro rfl (And.intro rfl (And.intro rfl (And.intro rfl trivial)))) ?_
            cases hf
            exact hj33
          · replace hf := p_f c36 hf
            refine x_aload_n hP dX12_round_193 rfl ?_
            refine x_getA hP fX12_149 lay67 (r := 111) rfl dX12_round_194 ?_
            refine x_iload hP dX12_round_197 rfl ?_
            obtain ⟨v37, hiv37, hv37, hf⟩ := b_ag hf
            refine y_ald hP lay111 hiv37 hv37 dX12_round_199 ?_
            refine x_istore_n hP (ls2 := [some (.ref 67), some (.int l1), none, some (.int v37), some (.int l4), none, none, none]) dX12_round_200 rfl rfl rfl ?_
            refine x_drop hP [some (.ref 67), some (.int l1), none, some (.int v37), some (.int l4), none, none, none] (And.intro rfl (And.intro rfl (And.intro rfl (And.intro rfl trivial)))) ?_
            cases hf
            exact hj33
      · replace hf := p_f c32 hf
        refine x_goto hP dX12_round_170 (tgt := 306) (by decide) ?_
        obtain ⟨v54, hv54, hf⟩ := b_lt hf
        refine x_iinc hP (v := v54) (ls2 := [some (.ref 67), some (.int l1), none, some (.int l3), some (.int v54), none, none, none]) dX12_round_306 rfl (by rw [hv54]; rfl) rfl rfl ?_
        refine x_goto hP dX12_round_309 (tgt := 149) (by decide) ?_
        refine x_drop hP [some (.ref 67), some (.int l1), none, some (.int l3), some (.int v54), none, none, none] (And.intro rfl (And.intro rfl (And.intro rfl (And.intro rfl trivial)))) ?_
        exact ih _ _ _ _ _ hf hx
set_option maxHeartbeats 1000000 in
set_option maxRecDepth 20000 in
theorem t_X12_round {g : GG} {d : Nat} (hd : 2 ≤ d) {M : Mem} {r : Int32} {M' : Mem} (hf : f_X12_round M = some (r, M')) : ExM g d iX12_round [.ref 67] LAY M (some (.int r), LAY, M') := by
  have hd1 : 1 ≤ d := by omega
  refine ExM.main pnX12 rfl (ls := [some (.ref 67), none, none, none, none, none, none, none]) rfl ?_
  intro P hP
  rw [f_X12_round] at hf
  refine x_aload_n hP dX12_round_0 rfl ?_
  refine x_getA hP fX12_46 lay67 (r := 77) rfl dX12_round_1 ?_
  refine x_aload_n hP dX12_round_4 rfl ?_
  refine x_getI hP fX12_251 lay67 dX12_round_5 ?_
  obtain ⟨v1, hiv1, hv1, hf⟩ := b_ag hf
  refine y_ald hP lay77 hiv1 hv1 dX12_round_8 ?_
  refine x_if_ne hP dX12_round_9 (tgt := 15) (by decide) (fun c2 => ?_) (fun c2 => ?_)
  · replace hf := p_f c2 hf
    refine x_aload_n hP dX12_round_15 rfl ?_
    obtain ⟨M4, hc3, hf⟩ := b_bd hf
    refine y_cvv hP oX12_copies lX12_347 [] [] rfl rfl rfl lay67 dX12_round_16 (t_X12_copies (d := d - 1) (by omega) hc3) (by omega) ?_
    refine x_iconst hP dX12_round_19 (v := 0) rfl ?_
    refine x_istore_n hP (ls2 := [some (.ref 67), some (.int (0 : Int32)), none, none, none, none, none, none]) dX12_round_20 rfl rfl rfl ?_
    refine x_iconst hP dX12_round_21 (v := 0) rfl ?_
    refine x_istore_n hP (ls2 := [some (.ref 67), some (.int (0 : Int32)), some (.int (0 : Int32)), none, none, none, none, none]) dX12_round_22 rfl rfl rfl ?_
    refine x_drop hP [some (.ref 67), some (.int (0 : Int32)), some (.int (0 : Int32)), none, none, none, none, none] (And.intro rfl (And.intro rfl (And.intro rfl trivial))) ?_
    obtain ⟨t21, hl22, hf⟩ := b_bd hf
    refine t_X12_round_L23 hd hP _ _ _ _ _ hl22 ?_
    refine x_aload_n hP dX12_round_94 rfl ?_
    refine x_getA hP fX12_128 lay67 (r := 104) rfl dX12_round_95 ?_
    refine x_bipush hP dX12_round_98 (v := 46) rfl ?_
    obtain ⟨v23, hiv23, hv23, hf⟩ := b_ag hf
    refine y_ald hP lay104 hiv23 hv23 dX12_round_100 ?_
    refine x_istore_n hP (ls2 := [some (.ref 67), some (.int t21.1), some (.int v23), none, none, none, none, none]) dX12_round_101 rfl rfl rfl ?_
    refine x_iconst hP dX12_round_102 (v := 0) rfl ?_
    refine x_istore_n hP (ls2 := [some (.ref 67), some (.int t21.1), some (.int v23), some (.int (0 : Int32)), none, none, none, none]) dX12_round_103 rfl rfl rfl ?_
    refine x_drop hP [some (.ref 67), some (.int t21.1), some (.int v23), some (.int (0 : Int32)), none, none, none, none] (And.intro rfl (And.intro rfl (And.intro rfl (And.intro rfl trivial)))) ?_
    obtain ⟨t27, hl28, hf⟩ := b_bd hf
    refine t_X12_round_L104 hd hP _ _ _ _ _ _ hl28 ?_
    refine x_aload_n hP dX12_round_126 rfl ?_
    refine x_getA hP fX12_149 lay67 (r := 111) rfl dX12_round_127 ?_
    refine x_bipush hP dX12_round_130 (v := 7) rfl ?_
    refine x_iload_n hP dX12_round_132 rfl ?_
    refine x_iconst hP dX12_round_133 (v := 1) rfl ?_
    refine x_iload_n hP dX12_round_134 rfl ?_
    refine x_ishl hP dX12_round_135 ?_
    refine x_iand hP dX12_round_136 ?_
    refine x_imul hP dX12_round_137 ?_
    refine x_iload_n hP dX12_round_138 rfl ?_
    refine x_iadd hP dX12_round_139 ?_
    refine x_iconst hP dX12_round_140 (v := 0) rfl ?_
    obtain ⟨M29, hiM29, hM29, hf⟩ := b_pg hf
    refine y_ast hP lay111 hiM29 hM29 dX12_round_141 ?_
    refine x_sipush hP dX12_round_142 (v := 1000) rfl ?_
    refine x_istore_n hP (ls2 := [some (.ref 67), some (.int t21.1), some (.int v23), some (.int (1000 : Int32)), none, none, none, none]) dX12_round_145 rfl rfl rfl ?_
    refine x_iconst hP dX12_round_146 (v := 0) rfl ?_
    refine x_istore hP (ls2 := [some (.ref 67), some (.int t21.1), some (.int v23), some (.int (1000 : Int32)), some (.int (0 : Int32)), none, none, none]) dX12_round_147 rfl rfl ?_
    refine x_drop hP [some (.ref 67), some (.int t21.1), none, some (.int (1000 : Int32)), some (.int (0 : Int32)), none, none, none] (And.intro rfl (And.intro rfl (And.intro rfl (And.intro rfl trivial)))) ?_
    obtain ⟨t55, hl56, hf⟩ := b_bd hf
    refine t_X12_round_L149 hd hP _ _ _ _ _ _ hl56 ?_
    refine x_iload_n hP dX12_round_312 rfl ?_
    refine x_sipush hP dX12_round_313 (v := 1000) rfl ?_
    refine x_icmp_lt hP dX12_round_316 (tgt := 324) (by decide) (fun c57 => ?_) (fun c57 => ?_)
    · replace hf := p_t c57 hf
      refine x_iload_n hP dX12_round_324 rfl ?_
      cases hf
      exact x_iret hP rfl dX12_round_325
    · replace hf := p_f c57 hf
      refine x_bipush hP dX12_round_319 (v := (-2)) rfl ?_
      refine x_goto hP dX12_round_321 (tgt := 325) (by decide) ?_
      cases hf
      exact x_iret hP rfl dX12_round_325
  · replace hf := p_t c2 hf
    refine x_bipush hP dX12_round_12 (v := (-2)) rfl ?_
    cases hf
    exact x_iret hP rfl dX12_round_14
def f_X12_brightest_L20 : Nat → Int32 → Int32 → Int32 → Mem → Option (Int32)
  | 0, _, _, _, _ => none
  | fu + 1, l1, l2, l3, M =>
    (ag M 77 2 (M.1 67 18)).bind fun v6 =>
    if v6 ≤ l3 then
      some l2
    else
      if l2 < 0 then
        lt (l3 + 1 : Int32) fun v9 =>
        f_X12_brightest_L20 fu l1 l3 v9 M
      else
        (f_X12_lightAt l3 M).bind fun v11 =>
        (f_X12_lightAt l2 M).bind fun v13 =>
        if v11 ≤ v13 then
          lt (l3 + 1 : Int32) fun v15 =>
          f_X12_brightest_L20 fu l1 l2 v15 M
        else
          lt (l3 + 1 : Int32) fun v16 =>
          f_X12_brightest_L20 fu l1 l3 v16 M
def f_X12_brightest (x1 : Int32) (M : Mem) : Option (Int32 × Mem) :=
  (f_X12_in x1 (0 : Int32) (1 : Int32)).bind fun v2 =>
  if v2 = 0 then
    some ((-1 : Int32), M)
  else
    (f_X12_copies M).bind fun M5 =>
    (f_X12_brightest_L20 FU x1 (-2 : Int32) (0 : Int32) M5).bind fun t17 =>
    if t17 < 0 then
      some (t17, M5)
    else
      if x1 = 0 then
        some (t17, M5)
      else
        (f_X12_lightAt t17 M5).bind fun v22 =>
        some (v22, M5)
set_option maxHeartbeats 1000000 in
set_option maxRecDepth 20000 in
theorem t_X12_brightest_L20 {g : GG} {d : Nat} {P : PT} {res : Option RS} (hd : 2 ≤ d)  (hP : IsM g iX12_brightest d res P) : ∀ (fu : Nat) (l1 : Int32) (l2 : Int32) (l3 : Int32) (M : Mem) (t : Int32), f_X12_brightest_L20 fu l1 l2 l3 M = some t → P 58 [some (.ref 67), some (.int l1), some (.int t), none] [] LAY M → P 20 [some (.ref 67), some (.int l1), some (.int l2), some (.int l3)] [] LAY M := by
  have hd1 : 1 ≤ d := by omega
  intro fu
  induction fu with
  | zero => intro l1 l2 l3 M t hf; simp [f_X12_brightest_L20] at hf
  | succ fu ih =>
    intro l1 l2 l3 M t hf hx
    rw [f_X12_brightest_L20] at hf
    refine x_iload_n hP dX12_brightest_20 rfl ?_
    refine x_aload_n hP dX12_brightest_21 rfl ?_
    refine x_getA hP fX12_46 lay67 (r := 77) rfl dX12_brightest_22 ?_
    refine x_aload_n hP dX12_brightest_25 rfl ?_
    refine x_getI hP fX12_251 lay67 dX12_brightest_26 ?_
    obtain ⟨v6, hiv6, hv6, hf⟩ := b_ag hf
    refine y_ald hP lay77 hiv6 hv6 dX12_brightest_29 ?_
    refine x_icmp_ge hP dX12_brightest_30 (tgt := 58) (by decide) (fun c7 => ?_) (fun c7 => ?_)
    · replace hf := p_t c7 hf
      refine x_drop hP [some (.ref 67), some (.int l1), some (.int l2), none] (And.intro rfl (And.intro rfl (And.intro rfl trivial))) ?_
      cases hf
      exact hx
    · replace hf := p_f c7 hf
      refine x_iload_n hP dX12_brightest_33 rfl ?_
      refine x_if_lt hP dX12_brightest_34 (tgt := 50) (by decide) (fun c8 => ?_) (fun c8 => ?_)
      · replace hf := p_t c8 hf
        refine x_iload_n hP dX12_brightest_50 rfl ?_
        refine x_istore_n hP (ls2 := [some (.ref 67), some (.int l1), some (.int l3), some (.int l3)]) dX12_brightest_51 rfl rfl rfl ?_
        obtain ⟨v9, hv9, hf⟩ := b_lt hf
        refine x_iinc hP (v := v9) (ls2 := [some (.ref 67), some (.int l1), some (.int l3), some (.int v9)]) dX12_brightest_52 rfl (by rw [hv9]; rfl) rfl rfl ?_
        refine x_goto hP dX12_brightest_55 (tgt := 20) (by decide) ?_
        refine x_drop hP [some (.ref 67), some (.int l1), some (.int l3), some (.int v9)] (And.intro rfl (And.intro rfl (And.intro rfl (And.intro rfl trivial)))) ?_
        exact ih _ _ _ _ _ hf hx
      · replace hf := p_f c8 hf
        refine x_aload_n hP dX12_brightest_37 rfl ?_
        refine x_iload_n hP dX12_brightest_38 rfl ?_
        obtain ⟨v11, hc10, hf⟩ := b_bd hf
        refine y_cvi hP oX12_lightAt lX12_389 [.int l3] [] rfl rfl rfl lay67 dX12_brightest_39 (t_X12_lightAt (d := d - 1) (by omega) hc10) (by omega) ?_
        refine x_aload_n hP dX12_brightest_42 rfl ?_
        refine x_iload_n hP dX12_brightest_43 rfl ?_
        obtain ⟨v13, hc12, hf⟩ := b_bd hf
        refine y_cvi hP oX12_lightAt lX12_389 [.int l2] [.int v11] rfl rfl rfl lay67 dX12_brightest_44 (t_X12_lightAt (d := d - 1) (by omega) hc12) (by omega) ?_
        refine x_icmp_le hP dX12_brightest_47 (tgt := 52) (by decide) (fun c14 => ?_) (fun c14 => ?_)
        · replace hf := p_t c14 hf
          obtain ⟨v15, hv15, hf⟩ := b_lt hf
          refine x_iinc hP (v := v15) (ls2 := [some (.ref 67), some (.int l1), some (.int l2), some (.int v15)]) dX12_brightest_52 rfl (by rw [hv15]; rfl) rfl rfl ?_
          refine x_goto hP dX12_brightest_55 (tgt := 20) (by decide) ?_
          refine x_drop hP [some (.ref 67), some (.int l1), some (.int l2), some (.int v15)] (And.intro rfl (And.intro rfl (And.intro rfl (And.intro rfl trivial)))) ?_
          exact ih _ _ _ _ _ hf hx
        · replace hf := p_f c14 hf
          refine x_iload_n hP dX12_brightest_50 rfl ?_
          refine x_istore_n hP (ls2 := [some (.ref 67), some (.int l1), some (.int l3), some (.int l3)]) dX12_brightest_51 rfl rfl rfl ?_
          obtain ⟨v16, hv16, hf⟩ := b_lt hf
          refine x_iinc hP (v := v16) (ls2 := [some (.ref 67), some (.int l1), some (.int l3), some (.int v16)]) dX12_brightest_52 rfl (by rw [hv16]; rfl) rfl rfl ?_
          refine x_goto hP dX12_brightest_55 (tgt := 20) (by decide) ?_
          refine x_drop hP [some (.ref 67), some (.int l1), some (.int l3), some (.int v16)] (And.intro rfl (And.intro rfl (And.intro rfl (And.intro rfl trivial)))) ?_
          exact ih _ _ _ _ _ hf hx
set_option maxHeartbeats 1000000 in
set_option maxRecDepth 20000 in
theorem t_X12_brightest {g : GG} {d : Nat} (hd : 2 ≤ d) {x1 : Int32} {M : Mem} {r : Int32} {M' : Mem} (hf : f_X12_brightest x1 M = some (r, M')) : ExM g d iX12_brightest [.ref 67, .int x1] LAY M (some (.int r), LAY, M') := by
  have hd1 : 1 ≤ d := by omega
  refine ExM.main pnX12 rfl (ls := [some (.ref 67), some (.int x1), none, none]) rfl ?_
  intro P hP
  rw [f_X12_brightest] at hf
  refine x_iload_n hP dX12_brightest_0 rfl ?_
  refine x_iconst hP dX12_brightest_1 (v := 0) rfl ?_
  refine x_iconst hP dX12_brightest_2 (v := 1) rfl ?_
  obtain ⟨v2, hc1, hf⟩ := b_bd hf
  refine y_csi hP oX12_in lX12_334 [.int x1, .int (0 : Int32), .int (1 : Int32)] [] rfl rfl rfl dX12_brightest_3 (t_X12_in (d := d - 1) (by omega) hc1) (by omega) ?_
  refine x_if_ne hP dX12_brightest_6 (tgt := 11) (by decide) (fun c3 => ?_) (fun c3 => ?_)
  · replace hf := p_f c3 hf
    refine x_aload_n hP dX12_brightest_11 rfl ?_
    obtain ⟨M5, hc4, hf⟩ := b_bd hf
    refine y_cvv hP oX12_copies lX12_347 [] [] rfl rfl rfl lay67 dX12_brightest_12 (t_X12_copies (d := d - 1) (by omega) hc4) (by omega) ?_
    refine x_bipush hP dX12_brightest_15 (v := (-2)) rfl ?_
    refine x_istore_n hP (ls2 := [some (.ref 67), some (.int x1), some (.int (-2 : Int32)), none]) dX12_brightest_17 rfl rfl rfl ?_
    refine x_iconst hP dX12_brightest_18 (v := 0) rfl ?_
    refine x_istore_n hP (ls2 := [some (.ref 67), some (.int x1), some (.int (-2 : Int32)), some (.int (0 : Int32))]) dX12_brightest_19 rfl rfl rfl ?_
    refine x_drop hP [some (.ref 67), some (.int x1), some (.int (-2 : Int32)), some (.int (0 : Int32))] (And.intro rfl (And.intro rfl (And.intro rfl (And.intro rfl trivial)))) ?_
    obtain ⟨t17, hl18, hf⟩ := b_bd hf
    refine t_X12_brightest_L20 hd hP _ _ _ _ _ _ hl18 ?_
    refine x_iload_n hP dX12_brightest_58 rfl ?_
    refine x_if_lt hP dX12_brightest_59 (tgt := 66) (by decide) (fun c19 => ?_) (fun c19 => ?_)
    · replace hf := p_t c19 hf
      refine x_iload_n hP dX12_brightest_66 rfl ?_
      refine x_goto hP dX12_brightest_67 (tgt := 75) (by decide) ?_
      cases hf
      exact x_iret hP rfl dX12_brightest_75
    · replace hf := p_f c19 hf
      refine x_iload_n hP dX12_brightest_62 rfl ?_
      refine x_if_ne hP dX12_brightest_63 (tgt := 70) (by decide) (fun c20 => ?_) (fun c20 => ?_)
      · replace hf := p_f c20 hf
        refine x_aload_n hP dX12_brightest_70 rfl ?_
        refine x_iload_n hP dX12_brightest_71 rfl ?_
        obtain ⟨v22, hc21, hf⟩ := b_bd hf
        refine y_cvi hP oX12_lightAt lX12_389 [.int t17] [] rfl rfl rfl lay67 dX12_brightest_72 (t_X12_lightAt (d := d - 1) (by omega) hc21) (by omega) ?_
        cases hf
        exact x_iret hP rfl dX12_brightest_75
      · replace hf := p_t c20 hf
        refine x_iload_n hP dX12_brightest_66 rfl ?_
        refine x_goto hP dX12_brightest_67 (tgt := 75) (by decide) ?_
        cases hf
        exact x_iret hP rfl dX12_brightest_75
  · replace hf := p_t c3 hf
    refine x_iconst hP dX12_brightest_9 (v := (-1)) rfl ?_
    cases hf
    exact x_iret hP rfl dX12_brightest_10
def f_X12_gather_L53 : Nat → Int32 → Int32 → Int32 → Int32 → Int32 → Int32 → Mem → Option (Int32)
  | 0, _, _, _, _, _, _, _ => none
  | fu + 1, l1, l2, l3, l4, l5, l6, M =>
    (ag M 82 2 (M.1 67 18)).bind fun v10 =>
    if v10 ≤ l6 then
      some l5
    else
      (ag M 104 48 ((12 : Int32) + l6)).bind fun v12 =>
      if v12 = 0 then
        (ag M 104 48 l6).bind fun v14 =>
        (ag M 110 7 v14).bind fun v15 =>
        lt (l5 + v15 : Int32) fun v16 =>
        lt (l6 + 1 : Int32) fun v17 =>
        f_X12_gather_L53 fu l1 l2 l3 l4 v16 v17 M
      else
        lt (l6 + 1 : Int32) fun v18 =>
        f_X12_gather_L53 fu l1 l2 l3 l4 l5 v18 M
def f_X12_gather_L25 : Nat → Int32 → Int32 → Int32 → Int32 → Mem → Option (Int32 × Int32 × Mem)
  | 0, _, _, _, _, _ => none
  | fu + 1, l1, l2, l3, l4, M =>
    (ag M 77 2 (M.1 67 18)).bind fun v6 =>
    if v6 ≤ l4 then
      some (l2, l3, M)
    else
      (f_X12_fillsFar l4 (0 : Int32) (0 : Int32) M).bind fun M9 =>
      (f_X12_gather_L53 FU l1 l2 l3 l4 (0 : Int32) (0 : Int32) M9).bind fun t19 =>
      if t19 < l3 then
        lt (l4 + 1 : Int32) fun v22 =>
        f_X12_gather_L25 fu l1 l4 t19 v22 M9
      else
        lt (l4 + 1 : Int32) fun v23 =>
        f_X12_gather_L25 fu l1 l2 l3 v23 M9
def f_X12_gather (x1 : Int32) (M : Mem) : Option (Int32 × Mem) :=
  (f_X12_in x1 (0 : Int32) (1 : Int32)).bind fun v2 =>
  if v2 = 0 then
    some ((-1 : Int32), M)
  else
    (f_X12_copies M).bind fun M5 =>
    (f_X12_gather_L25 FU x1 (-2 : Int32) (1000 : Int32) (0 : Int32) M5).bind fun t24 =>
    if t24.1 < 0 then
      some (t24.1, t24.2.2)
    else
      if x1 = 0 then
        some (t24.1, t24.2.2)
      else
        some (t24.2.1, t24.2.2)
set_option maxHeartbeats 1000000 in
set_option maxRecDepth 20000 in
theorem t_X12_gather_L53 {g : GG} {d : Nat} {P : PT} {res : Option RS} (hd : 2 ≤ d)  (hP : IsM g iX12_gather d res P) : ∀ (fu : Nat) (l1 : Int32) (l2 : Int32) (l3 : Int32) (l4 : Int32) (l5 : Int32) (l6 : Int32) (M : Mem) (t : Int32), f_X12_gather_L53 fu l1 l2 l3 l4 l5 l6 M = some t → P 103 [some (.ref 67), some (.int l1), some (.int l2), some (.int l3), some (.int l4), some (.int t), none] [] LAY M → P 53 [some (.ref 67), some (.int l1), some (.int l2), some (.int l3), some (.int l4), some (.int l5), some (.int l6)] [] LAY M := by
  have hd1 : 1 ≤ d := by omega
  intro fu
  induction fu with
  | zero => intro l1 l2 l3 l4 l5 l6 M t hf; simp [f_X12_gather_L53] at hf
  | succ fu ih =>
    intro l1 l2 l3 l4 l5 l6 M t hf hx
    rw [f_X12_gather_L53] at hf
    refine x_iload hP dX12_gather_53 rfl ?_
    refine x_aload_n hP dX12_gather_55 rfl ?_
    refine x_getA hP fX12_61 lay67 (r := 82) rfl dX12_gather_56 ?_
    refine x_aload_n hP dX12_gather_59 rfl ?_
    refine x_getI hP fX12_251 lay67 dX12_gather_60 ?_
    obtain ⟨v10, hiv10, hv10, hf⟩ := b_ag hf
    refine y_ald hP lay82 hiv10 hv10 dX12_gather_63 ?_
    refine x_icmp_ge hP dX12_gather_64 (tgt := 103) (by decide) (fun c11 => ?_) (fun c11 => ?_)
    · replace hf := p_t c11 hf
      refine x_drop hP [some (.ref 67), some (.int l1), some (.int l2), some (.int l3), some (.int l4), some (.int l5), none] (And.intro rfl (And.intro rfl (And.intro rfl (And.intro rfl (And.intro rfl (And.intro rfl trivial)))))) ?_
      cases hf
      exact hx
    · replace hf := p_f c11 hf
      refine x_aload_n hP dX12_gather_67 rfl ?_
      refine x_getA hP fX12_128 lay67 (r := 104) rfl dX12_gather_68 ?_
      refine x_bipush hP dX12_gather_71 (v := 12) rfl ?_
      refine x_iload hP dX12_gather_73 rfl ?_
      refine x_iadd hP dX12_gather_75 ?_
      obtain ⟨v12, hiv12, hv12, hf⟩ := b_ag hf
      refine y_ald hP lay104 hiv12 hv12 dX12_gather_76 ?_
      refine x_if_ne hP dX12_gather_77 (tgt := 97) (by decide) (fun c13 => ?_) (fun c13 => ?_)
      · replace hf := p_f c13 hf
        obtain ⟨v18, hv18, hf⟩ := b_lt hf
        refine x_iinc hP (v := v18) (ls2 := [some (.ref 67), some (.int l1), some (.int l2), some (.int l3), some (.int l4), some (.int l5), some (.int v18)]) dX12_gather_97 rfl (by rw [hv18]; rfl) rfl rfl ?_
        refine x_goto hP dX12_gather_100 (tgt := 53) (by decide) ?_
        refine x_drop hP [some (.ref 67), some (.int l1), some (.int l2), some (.int l3), some (.int l4), some (.int l5), some (.int v18)] (And.intro rfl (And.intro rfl (And.intro rfl (And.intro rfl (And.intro rfl (And.intro rfl (And.intro rfl trivial))))))) ?_
        exact ih _ _ _ _ _ _ _ _ hf hx
      · replace hf := p_t c13 hf
        refine x_iload hP dX12_gather_80 rfl ?_
        refine x_aload_n hP dX12_gather_82 rfl ?_
        refine x_getA hP fX12_146 lay67 (r := 110) rfl dX12_gather_83 ?_
        refine x_aload_n hP dX12_gather_86 rfl ?_
        refine x_getA hP fX12_128 lay67 (r := 104) rfl dX12_gather_87 ?_
        refine x_iload hP dX12_gather_90 rfl ?_
        obtain ⟨v14, hiv14, hv14, hf⟩ := b_ag hf
        refine y_ald hP lay104 hiv14 hv14 dX12_gather_92 ?_
        obtain ⟨v15, hiv15, hv15, hf⟩ := b_ag hf
        refine y_ald hP lay110 hiv15 hv15 dX12_gather_93 ?_
        refine x_iadd hP dX12_gather_94 ?_
        obtain ⟨v16, hv16, hf⟩ := b_lt hf
        refine y_nmI hv16 ?_
        refine x_istore hP (ls2 := [some (.ref 67), some (.int l1), some (.int l2), some (.int l3), some (.int l4), some (.int v16), some (.int l6)]) dX12_gather_95 rfl rfl ?_
        obtain ⟨v17, hv17, hf⟩ := b_lt hf
        refine x_iinc hP (v := v17) (ls2 := [some (.ref 67), some (.int l1), some (.int l2), some (.int l3), some (.int l4), some (.int v16), some (.int v17)]) dX12_gather_97 rfl (by rw [hv17]; rfl) rfl rfl ?_
        refine x_goto hP dX12_gather_100 (tgt := 53) (by decide) ?_
        refine x_drop hP [some (.ref 67), some (.int l1), some (.int l2), some (.int l3), some (.int l4), some (.int v16), some (.int v17)] (And.intro rfl (And.intro rfl (And.intro rfl (And.intro rfl (And.intro rfl (And.intro rfl (And.intro rfl trivial))))))) ?_
        exact ih _ _ _ _ _ _ _ _ hf hx
set_option maxHeartbeats 1000000 in
set_option maxRecDepth 20000 in
theorem t_X12_gather_L25 {g : GG} {d : Nat} {P : PT} {res : Option RS} (hd : 2 ≤ d)  (hP : IsM g iX12_gather d res P) : ∀ (fu : Nat) (l1 : Int32) (l2 : Int32) (l3 : Int32) (l4 : Int32) (M : Mem) (t : Int32 × Int32 × Mem), f_X12_gather_L25 fu l1 l2 l3 l4 M = some t → P 124 [none, some (.int l1), some (.int t.1), some (.int t.2.1), none, none, none] [] LAY t.2.2 → P 25 [some (.ref 67), some (.int l1), some (.int l2), some (.int l3), some (.int l4), none, none] [] LAY M := by
  have hd1 : 1 ≤ d := by omega
  intro fu
  induction fu with
  | zero => intro l1 l2 l3 l4 M t hf; simp [f_X12_gather_L25] at hf
  | succ fu ih =>
    intro l1 l2 l3 l4 M t hf hx
    rw [f_X12_gather_L25] at hf
    refine x_iload hP dX12_gather_25 rfl ?_
    refine x_aload_n hP dX12_gather_27 rfl ?_
    refine x_getA hP fX12_46 lay67 (r := 77) rfl dX12_gather_28 ?_
    refine x_aload_n hP dX12_gather_31 rfl ?_
    refine x_getI hP fX12_251 lay67 dX12_gather_32 ?_
    obtain ⟨v6, hiv6, hv6, hf⟩ := b_ag hf
    refine y_ald hP lay77 hiv6 hv6 dX12_gather_35 ?_
    refine x_icmp_ge hP dX12_gather_36 (tgt := 124) (by decide) (fun c7 => ?_) (fun c7 => ?_)
    · replace hf := p_t c7 hf
      refine x_drop hP [none, some (.int l1), some (.int l2), some (.int l3), none, none, none] (And.intro rfl (And.intro rfl (And.intro rfl trivial))) ?_
      cases hf
      exact hx
    · replace hf := p_f c7 hf
      refine x_aload_n hP dX12_gather_39 rfl ?_
      refine x_iload hP dX12_gather_40 rfl ?_
      refine x_iconst hP dX12_gather_42 (v := 0) rfl ?_
      refine x_iconst hP dX12_gather_43 (v := 0) rfl ?_
      obtain ⟨M9, hc8, hf⟩ := b_bd hf
      refine y_cvv hP oX12_fillsFar lX12_450 [.int l4, .int (0 : Int32), .int (0 : Int32)] [] rfl rfl rfl lay67 dX12_gather_44 (t_X12_fillsFar (d := d - 1) (by omega) hc8) (by omega) ?_
      refine x_iconst hP dX12_gather_47 (v := 0) rfl ?_
      refine x_istore hP (ls2 := [some (.ref 67), some (.int l1), some (.int l2), some (.int l3), some (.int l4), some (.int (0 : Int32)), none]) dX12_gather_48 rfl rfl ?_
      refine x_iconst hP dX12_gather_50 (v := 0) rfl ?_
      refine x_istore hP (ls2 := [some (.ref 67), some (.int l1), some (.int l2), some (.int l3), some (.int l4), some (.int (0 : Int32)), some (.int (0 : Int32))]) dX12_gather_51 rfl rfl ?_
      refine x_drop hP [some (.ref 67), some (.int l1), some (.int l2), some (.int l3), some (.int l4), some (.int (0 : Int32)), some (.int (0 : Int32))] (And.intro rfl (And.intro rfl (And.intro rfl (And.intro rfl (And.intro rfl (And.intro rfl (And.intro rfl trivial))))))) ?_
      obtain ⟨t19, hl20, hf⟩ := b_bd hf
      refine t_X12_gather_L53 hd hP _ _ _ _ _ _ _ _ _ hl20 ?_
      refine x_iload hP dX12_gather_103 rfl ?_
      refine x_iload_n hP dX12_gather_105 rfl ?_
      refine x_icmp_lt hP dX12_gather_106 (tgt := 112) (by decide) (fun c21 => ?_) (fun c21 => ?_)
      · replace hf := p_t c21 hf
        refine x_iload hP dX12_gather_112 rfl ?_
        refine x_istore_n hP (ls2 := [some (.ref 67), some (.int l1), some (.int l4), some (.int l3), some (.int l4), some (.int t19), none]) dX12_gather_114 rfl rfl rfl ?_
        refine x_iload hP dX12_gather_115 rfl ?_
        refine x_istore_n hP (ls2 := [some (.ref 67), some (.int l1), some (.int l4), some (.int t19), some (.int l4), some (.int t19), none]) dX12_gather_117 rfl rfl rfl ?_
        obtain ⟨v22, hv22, hf⟩ := b_lt hf
        refine x_iinc hP (v := v22) (ls2 := [some (.ref 67), some (.int l1), some (.int l4), some (.int t19), some (.int v22), some (.int t19), none]) dX12_gather_118 rfl (by rw [hv22]; rfl) rfl rfl ?_
        refine x_goto hP dX12_gather_121 (tgt := 25) (by decide) ?_
        refine x_drop hP [some (.ref 67), some (.int l1), some (.int l4), some (.int t19), some (.int v22), none, none] (And.intro rfl (And.intro rfl (And.intro rfl (And.intro rfl (And.intro rfl trivial))))) ?_
        exact ih _ _ _ _ _ _ hf hx
      · replace hf := p_f c21 hf
        refine x_goto hP dX12_gather_109 (tgt := 118) (by decide) ?_
        obtain ⟨v23, hv23, hf⟩ := b_lt hf
        refine x_iinc hP (v := v23) (ls2 := [some (.ref 67), some (.int l1), some (.int l2), some (.int l3), some (.int v23), some (.int t19), none]) dX12_gather_118 rfl (by rw [hv23]; rfl) rfl rfl ?_
        refine x_goto hP dX12_gather_121 (tgt := 25) (by decide) ?_
        refine x_drop hP [some (.ref 67), some (.int l1), some (.int l2), some (.int l3), some (.int v23), none, none] (And.intro rfl (And.intro rfl (And.intro rfl (And.intro rfl (And.intro rfl trivial))))) ?_
        exact ih _ _ _ _ _ _ hf hx
set_option maxHeartbeats 1000000 in
set_option maxRecDepth 20000 in
theorem t_X12_gather {g : GG} {d : Nat} (hd : 2 ≤ d) {x1 : Int32} {M : Mem} {r : Int32} {M' : Mem} (hf : f_X12_gather x1 M = some (r, M')) : ExM g d iX12_gather [.ref 67, .int x1] LAY M (some (.int r), LAY, M') := by
  have hd1 : 1 ≤ d := by omega
  refine ExM.main pnX12 rfl (ls := [some (.ref 67), some (.int x1), none, none, none, none, none]) rfl ?_
  intro P hP
  rw [f_X12_gather] at hf
  refine x_iload_n hP dX12_gather_0 rfl ?_
  refine x_iconst hP dX12_gather_1 (v := 0) rfl ?_
  refine x_iconst hP dX12_gather_2 (v := 1) rfl ?_
  obtain ⟨v2, hc1, hf⟩ := b_bd hf
  refine y_csi hP oX12_in lX12_334 [.int x1, .int (0 : Int32), .int (1 : Int32)] [] rfl rfl rfl dX12_gather_3 (t_X12_in (d := d - 1) (by omega) hc1) (by omega) ?_
  refine x_if_ne hP dX12_gather_6 (tgt := 11) (by decide) (fun c3 => ?_) (fun c3 => ?_)
  · replace hf := p_f c3 hf
    refine x_aload_n hP dX12_gather_11 rfl ?_
    obtain ⟨M5, hc4, hf⟩ := b_bd hf
    refine y_cvv hP oX12_copies lX12_347 [] [] rfl rfl rfl lay67 dX12_gather_12 (t_X12_copies (d := d - 1) (by omega) hc4) (by omega) ?_
    refine x_bipush hP dX12_gather_15 (v := (-2)) rfl ?_
    refine x_istore_n hP (ls2 := [some (.ref 67), some (.int x1), some (.int (-2 : Int32)), none, none, none, none]) dX12_gather_17 rfl rfl rfl ?_
    refine x_sipush hP dX12_gather_18 (v := 1000) rfl ?_
    refine x_istore_n hP (ls2 := [some (.ref 67), some (.int x1), some (.int (-2 : Int32)), some (.int (1000 : Int32)), none, none, none]) dX12_gather_21 rfl rfl rfl ?_
    refine x_iconst hP dX12_gather_22 (v := 0) rfl ?_
    refine x_istore hP (ls2 := [some (.ref 67), some (.int x1), some (.int (-2 : Int32)), some (.int (1000 : Int32)), some (.int (0 : Int32)), none, none]) dX12_gather_23 rfl rfl ?_
    refine x_drop hP [some (.ref 67), some (.int x1), some (.int (-2 : Int32)), some (.int (1000 : Int32)), some (.int (0 : Int32)), none, none] (And.intro rfl (And.intro rfl (And.intro rfl (And.intro rfl (And.intro rfl trivial))))) ?_
    obtain ⟨t24, hl25, hf⟩ := b_bd hf
    refine t_X12_gather_L25 hd hP _ _ _ _ _ _ _ hl25 ?_
    refine x_iload_n hP dX12_gather_124 rfl ?_
    refine x_if_lt hP dX12_gather_125 (tgt := 132) (by decide) (fun c26 => ?_) (fun c26 => ?_)
    · replace hf := p_t c26 hf
      refine x_iload_n hP dX12_gather_132 rfl ?_
      refine x_goto hP dX12_gather_133 (tgt := 137) (by decide) ?_
      cases hf
      exact x_iret hP rfl dX12_gather_137
    · replace hf := p_f c26 hf
      refine x_iload_n hP dX12_gather_128 rfl ?_
      refine x_if_ne hP dX12_gather_129 (tgt := 136) (by decide) (fun c27 => ?_) (fun c27 => ?_)
      · replace hf := p_f c27 hf
        refine x_iload_n hP dX12_gather_136 rfl ?_
        cases hf
        exact x_iret hP rfl dX12_gather_137
      · replace hf := p_t c27 hf
        refine x_iload_n hP dX12_gather_132 rfl ?_
        refine x_goto hP dX12_gather_133 (tgt := 137) (by decide) ?_
        cases hf
        exact x_iret hP rfl dX12_gather_137
  · replace hf := p_t c3 hf
    refine x_iconst hP dX12_gather_9 (v := (-1)) rfl ?_
    cases hf
    exact x_iret hP rfl dX12_gather_10
def f_X12_moves_L35 : Nat → Int32 → Int32 → Int32 → Int32 → Int32 → Mem → Option (Int32)
  | 0, _, _, _, _, _, _ => none
  | fu + 1, l1, l2, l3, l4, l5, M =>
    (ag M 82 2 (M.1 67 18)).bind fun v11 =>
    if v11 ≤ l5 then
      some l4
    else
      (ag M 104 48 ((12 : Int32) + l5)).bind fun v13 =>
      if v13 = 0 then
        (ag M 104 48 l5).bind fun v15 =>
        (f_X12_isEnd l1 v15 M).bind fun v17 =>
        if v17 = 0 then
          lt (l4 ||| ((1 : Int32) <<< (l5 &&& 31)) : Int32) fun v19 =>
          lt (l5 + 1 : Int32) fun v20 =>
          f_X12_moves_L35 fu l1 l2 l3 v19 v20 M
        else
          lt (l5 + 1 : Int32) fun v21 =>
          f_X12_moves_L35 fu l1 l2 l3 l4 v21 M
      else
        lt (l5 + 1 : Int32) fun v22 =>
        f_X12_moves_L35 fu l1 l2 l3 l4 v22 M
def f_X12_moves_L112 : Nat → Int32 → Int32 → Int32 → Int32 → Int32 → Int32 → Int32 → Mem → Option (Int32)
  | 0, _, _, _, _, _, _, _, _ => none
  | fu + 1, l2, l3, l4, l5, l6, l7, l8, M =>
    if (6 : Int32) ≤ l8 then
      some l7
    else
      if (l6 >>> (l8 &&& 31)) &&& (1 : Int32) = (1 : Int32) then
        (ag M 104 48 ((6 : Int32) + l8)).bind fun v28 =>
        lt (l7 + v28 : Int32) fun v29 =>
        lt (l8 + 1 : Int32) fun v30 =>
        f_X12_moves_L112 fu l2 l3 l4 l5 l6 v29 v30 M
      else
        lt (l8 + 1 : Int32) fun v31 =>
        f_X12_moves_L112 fu l2 l3 l4 l5 l6 l7 v31 M
def f_X12_moves_L99 : Nat → Int32 → Int32 → Int32 → Int32 → Int32 → Mem → Option (Int32)
  | 0, _, _, _, _, _, _ => none
  | fu + 1, l2, l3, l4, l5, l6, M =>
    if (64 : Int32) ≤ l6 then
      some l5
    else
      (f_X12_moves_L112 FU l2 l3 l4 l5 l6 (0 : Int32) (0 : Int32) M).bind fun t32 =>
      if l6 &&& (l4 ^^^ (-1 : Int32)) = 0 then
        if t32 < l3 then
          lt (l6 + 1 : Int32) fun v36 =>
          f_X12_moves_L99 fu l2 l3 l4 l5 v36 M
        else
          if l5 < 0 then
            lt (l6 + 1 : Int32) fun v38 =>
            f_X12_moves_L99 fu l2 l3 l4 l6 v38 M
          else
            (f_X12_bits l6).bind fun v40 =>
            (f_X12_bits l5).bind fun v42 =>
            if v42 ≤ v40 then
              lt (l6 + 1 : Int32) fun v44 =>
              f_X12_moves_L99 fu l2 l3 l4 l5 v44 M
            else
              lt (l6 + 1 : Int32) fun v45 =>
              f_X12_moves_L99 fu l2 l3 l4 l6 v45 M
      else
        lt (l6 + 1 : Int32) fun v46 =>
        f_X12_moves_L99 fu l2 l3 l4 l5 v46 M
def f_X12_moves (x1 : Int32) (x2 : Int32) (M : Mem) : Option (Int32 × Mem) :=
  (f_X12_isStreet x1 M).bind fun v2 =>
  if v2 = 0 then
    some ((-1 : Int32), M)
  else
    (f_X12_in x2 (0 : Int32) (1 : Int32)).bind fun v5 =>
    if v5 = 0 then
      some ((-1 : Int32), M)
    else
      (f_X12_copies M).bind fun M8 =>
      (f_X12_needsOf x1 M8).bind fun v10 =>
      (f_X12_moves_L35 FU x1 x2 v10 (0 : Int32) (0 : Int32) M8).bind fun t23 =>
      (f_X12_moves_L99 FU x2 v10 t23 (-2 : Int32) (0 : Int32) M8).bind fun t47 =>
      if t47 < 0 then
        some (t47, M8)
      else
        if x2 = (1 : Int32) then
          some (t47, M8)
        else
          (f_X12_bits t47).bind fun v52 =>
          some (v52, M8)
set_option maxHeartbeats 1000000 in
set_option maxRecDepth 20000 in
theorem t_X12_moves_L35 {g : GG} {d : Nat} {P : PT} {res : Option RS} (hd : 3 ≤ d)  (hP : IsM g iX12_moves d res P) : ∀ (fu : Nat) (l1 : Int32) (l2 : Int32) (l3 : Int32) (l4 : Int32) (l5 : Int32) (M : Mem) (t : Int32), f_X12_moves_L35 fu l1 l2 l3 l4 l5 M = some t → P 92 [some (.ref 67), none, some (.int l2), some (.int l3), some (.int t), none, none, none, none] [] LAY M → P 35 [some (.ref 67), some (.int l1), some (.int l2), some (.int l3), some (.int l4), some (.int l5), none, none, none] [] LAY M := by
  have hd1 : 1 ≤ d := by omega
  intro fu
  induction fu with
  | zero => intro l1 l2 l3 l4 l5 M t hf; simp [f_X12_moves_L35] at hf
  | succ fu ih =>
    intro l1 l2 l3 l4 l5 M t hf hx
    rw [f_X12_moves_L35] at hf
    refine x_iload hP dX12_moves_35 rfl ?_
    refine x_aload_n hP dX12_moves_37 rfl ?_
    refine x_getA hP fX12_61 lay67 (r := 82) rfl dX12_moves_38 ?_
    refine x_aload_n hP dX12_moves_41 rfl ?_
    refine x_getI hP fX12_251 lay67 dX12_moves_42 ?_
    obtain ⟨v11, hiv11, hv11, hf⟩ := b_ag hf
    refine y_ald hP lay82 hiv11 hv11 dX12_moves_45 ?_
    refine x_icmp_ge hP dX12_moves_46 (tgt := 92) (by decide) (fun c12 => ?_) (fun c12 => ?_)
    · replace hf := p_t c12 hf
      refine x_drop hP [some (.ref 67), none, some (.int l2), some (.int l3), some (.int l4), none, none, none, none] (And.intro rfl (And.intro rfl (And.intro rfl (And.intro rfl trivial)))) ?_
      cases hf
      exact hx
    · replace hf := p_f c12 hf
      refine x_aload_n hP dX12_moves_49 rfl ?_
      refine x_getA hP fX12_128 lay67 (r := 104) rfl dX12_moves_50 ?_
      refine x_bipush hP dX12_moves_53 (v := 12) rfl ?_
      refine x_iload hP dX12_moves_55 rfl ?_
      refine x_iadd hP dX12_moves_57 ?_
      obtain ⟨v13, hiv13, hv13, hf⟩ := b_ag hf
      refine y_ald hP lay104 hiv13 hv13 dX12_moves_58 ?_
      refine x_if_ne hP dX12_moves_59 (tgt := 86) (by decide) (fun c14 => ?_) (fun c14 => ?_)
      · replace hf := p_f c14 hf
        obtain ⟨v22, hv22, hf⟩ := b_lt hf
        refine x_iinc hP (v := v22) (ls2 := [some (.ref 67), some (.int l1), some (.int l2), some (.int l3), some (.int l4), some (.int v22), none, none, none]) dX12_moves_86 rfl (by rw [hv22]; rfl) rfl rfl ?_
        refine x_goto hP dX12_moves_89 (tgt := 35) (by decide) ?_
        refine x_drop hP [some (.ref 67), some (.int l1), some (.int l2), some (.int l3), some (.int l4), some (.int v22), none, none, none] (And.intro rfl (And.intro rfl (And.intro rfl (And.intro rfl (And.intro rfl (And.intro rfl trivial)))))) ?_
        exact ih _ _ _ _ _ _ _ hf hx
      · replace hf := p_t c14 hf
        refine x_aload_n hP dX12_moves_62 rfl ?_
        refine x_iload_n hP dX12_moves_63 rfl ?_
        refine x_aload_n hP dX12_moves_64 rfl ?_
        refine x_getA hP fX12_128 lay67 (r := 104) rfl dX12_moves_65 ?_
        refine x_iload hP dX12_moves_68 rfl ?_
        obtain ⟨v15, hiv15, hv15, hf⟩ := b_ag hf
        refine y_ald hP lay104 hiv15 hv15 dX12_moves_70 ?_
        obtain ⟨v17, hc16, hf⟩ := b_bd hf
        refine y_cvi hP oX12_isEnd lX12_401 [.int l1, .int v15] [] rfl rfl rfl lay67 dX12_moves_71 (t_X12_isEnd (d := d - 1) (by omega) hc16) (by omega) ?_
        refine x_if_ne hP dX12_moves_74 (tgt := 86) (by decide) (fun c18 => ?_) (fun c18 => ?_)
        · replace hf := p_f c18 hf
          obtain ⟨v21, hv21, hf⟩ := b_lt hf
          refine x_iinc hP (v := v21) (ls2 := [some (.ref 67), some (.int l1), some (.int l2), some (.int l3), some (.int l4), some (.int v21), none, none, none]) dX12_moves_86 rfl (by rw [hv21]; rfl) rfl rfl ?_
          refine x_goto hP dX12_moves_89 (tgt := 35) (by decide) ?_
          refine x_drop hP [some (.ref 67), some (.int l1), some (.int l2), some (.int l3), some (.int l4), some (.int v21), none, none, none] (And.intro rfl (And.intro rfl (And.intro rfl (And.intro rfl (And.intro rfl (And.intro rfl trivial)))))) ?_
          exact ih _ _ _ _ _ _ _ hf hx
        · replace hf := p_t c18 hf
          refine x_iload hP dX12_moves_77 rfl ?_
          refine x_iconst hP dX12_moves_79 (v := 1) rfl ?_
          refine x_iload hP dX12_moves_80 rfl ?_
          refine x_ishl hP dX12_moves_82 ?_
          refine x_ior hP dX12_moves_83 ?_
          obtain ⟨v19, hv19, hf⟩ := b_lt hf
          refine y_nmI hv19 ?_
          refine x_istore hP (ls2 := [some (.ref 67), some (.int l1), some (.int l2), some (.int l3), some (.int v19), some (.int l5), none, none, none]) dX12_moves_84 rfl rfl ?_
          obtain ⟨v20, hv20, hf⟩ := b_lt hf
          refine x_iinc hP (v := v20) (ls2 := [some (.ref 67), some (.int l1), some (.int l2), some (.int l3), some (.int v19), some (.int v20), none, none, none]) dX12_moves_86 rfl (by rw [hv20]; rfl) rfl rfl ?_
          refine x_goto hP dX12_moves_89 (tgt := 35) (by decide) ?_
          refine x_drop hP [some (.ref 67), some (.int l1), some (.int l2), some (.int l3), some (.int v19), some (.int v20), none, none, none] (And.intro rfl (And.intro rfl (And.intro rfl (And.intro rfl (And.intro rfl (And.intro rfl trivial)))))) ?_
          exact ih _ _ _ _ _ _ _ hf hx
set_option maxHeartbeats 1000000 in
set_option maxRecDepth 20000 in
theorem t_X12_moves_L112 {g : GG} {d : Nat} {P : PT} {res : Option RS} (hd : 3 ≤ d)  (hP : IsM g iX12_moves d res P) : ∀ (fu : Nat) (l2 : Int32) (l3 : Int32) (l4 : Int32) (l5 : Int32) (l6 : Int32) (l7 : Int32) (l8 : Int32) (M : Mem) (t : Int32), f_X12_moves_L112 fu l2 l3 l4 l5 l6 l7 l8 M = some t → P 151 [some (.ref 67), none, some (.int l2), some (.int l3), some (.int l4), some (.int l5), some (.int l6), some (.int t), none] [] LAY M → P 112 [some (.ref 67), none, some (.int l2), some (.int l3), some (.int l4), some (.int l5), some (.int l6), some (.int l7), some (.int l8)] [] LAY M := by
  have hd1 : 1 ≤ d := by omega
  intro fu
  induction fu with
  | zero => intro l2 l3 l4 l5 l6 l7 l8 M t hf; simp [f_X12_moves_L112] at hf
  | succ fu ih =>
    intro l2 l3 l4 l5 l6 l7 l8 M t hf hx
    rw [f_X12_moves_L112] at hf
    refine x_iload hP dX12_moves_112 rfl ?_
    refine x_bipush hP dX12_moves_114 (v := 6) rfl ?_
    refine x_icmp_ge hP dX12_moves_116 (tgt := 151) (by decide) (fun c26 => ?_) (fun c26 => ?_)
    · replace hf := p_t c26 hf
      refine x_drop hP [some (.ref 67), none, some (.int l2), some (.int l3), some (.int l4), some (.int l5), some (.int l6), some (.int l7), none] (And.intro rfl (And.intro rfl (And.intro rfl (And.intro rfl (And.intro rfl (And.intro rfl (And.intro rfl trivial))))))) ?_
      cases hf
      exact hx
    · replace hf := p_f c26 hf
      refine x_iload hP dX12_moves_119 rfl ?_
      refine x_iload hP dX12_moves_121 rfl ?_
      refine x_ishr hP dX12_moves_123 ?_
      refine x_iconst hP dX12_moves_124 (v := 1) rfl ?_
      refine x_iand hP dX12_moves_125 ?_
      refine x_iconst hP dX12_moves_126 (v := 1) rfl ?_
      refine x_icmp_ne hP dX12_moves_127 (tgt := 145) (by decide) (fun c27 => ?_) (fun c27 => ?_)
      · replace hf := p_f c27 hf
        obtain ⟨v31, hv31, hf⟩ := b_lt hf
        refine x_iinc hP (v := v31) (ls2 := [some (.ref 67), none, some (.int l2), some (.int l3), some (.int l4), some (.int l5), some (.int l6), some (.int l7), some (.int v31)]) dX12_moves_145 rfl (by rw [hv31]; rfl) rfl rfl ?_
        refine x_goto hP dX12_moves_148 (tgt := 112) (by decide) ?_
        refine x_drop hP [some (.ref 67), none, some (.int l2), some (.int l3), some (.int l4), some (.int l5), some (.int l6), some (.int l7), some (.int v31)] (And.intro rfl (And.intro rfl (And.intro rfl (And.intro rfl (And.intro rfl (And.intro rfl (And.intro rfl (And.intro rfl trivial)))))))) ?_
        exact ih _ _ _ _ _ _ _ _ _ hf hx
      · replace hf := p_t c27 hf
        refine x_iload hP dX12_moves_130 rfl ?_
        refine x_aload_n hP dX12_moves_132 rfl ?_
        refine x_getA hP fX12_128 lay67 (r := 104) rfl dX12_moves_133 ?_
        refine x_bipush hP dX12_moves_136 (v := 6) rfl ?_
        refine x_iload hP dX12_moves_138 rfl ?_
        refine x_iadd hP dX12_moves_140 ?_
        obtain ⟨v28, hiv28, hv28, hf⟩ := b_ag hf
        refine y_ald hP lay104 hiv28 hv28 dX12_moves_141 ?_
        refine x_iadd hP dX12_moves_142 ?_
        obtain ⟨v29, hv29, hf⟩ := b_lt hf
        refine y_nmI hv29 ?_
        refine x_istore hP (ls2 := [some (.ref 67), none, some (.int l2), some (.int l3), some (.int l4), some (.int l5), some (.int l6), some (.int v29), some (.int l8)]) dX12_moves_143 rfl rfl ?_
        obtain ⟨v30, hv30, hf⟩ := b_lt hf
        refine x_iinc hP (v := v30) (ls2 := [some (.ref 67), none, some (.int l2), some (.int l3), some (.int l4), some (.int l5), some (.int l6), some (.int v29), some (.int v30)]) dX12_moves_145 rfl (by rw [hv30]; rfl) rfl rfl ?_
        refine x_goto hP dX12_moves_148 (tgt := 112) (by decide) ?_
        refine x_drop hP [some (.ref 67), none, some (.int l2), some (.int l3), some (.int l4), some (.int l5), some (.int l6), some (.int v29), some (.int v30)] (And.intro rfl (And.intro rfl (And.intro rfl (And.intro rfl (And.intro rfl (And.intro rfl (And.intro rfl (And.intro rfl trivial)))))))) ?_
        exact ih _ _ _ _ _ _ _ _ _ hf hx
set_option maxHeartbeats 1000000 in
set_option maxRecDepth 20000 in
theorem t_X12_moves_L99 {g : GG} {d : Nat} {P : PT} {res : Option RS} (hd : 3 ≤ d)  (hP : IsM g iX12_moves d res P) : ∀ (fu : Nat) (l2 : Int32) (l3 : Int32) (l4 : Int32) (l5 : Int32) (l6 : Int32) (M : Mem) (t : Int32), f_X12_moves_L99 fu l2 l3 l4 l5 l6 M = some t → P 195 [none, none, some (.int l2), none, none, some (.int t), none, none, none] [] LAY M → P 99 [some (.ref 67), none, some (.int l2), some (.int l3), some (.int l4), some (.int l5), some (.int l6), none, none] [] LAY M := by
  have hd1 : 1 ≤ d := by omega
  intro fu
  induction fu with
  | zero => intro l2 l3 l4 l5 l6 M t hf; simp [f_X12_moves_L99] at hf
  | succ fu ih =>
    intro l2 l3 l4 l5 l6 M t hf hx
    rw [f_X12_moves_L99] at hf
    refine x_iload hP dX12_moves_99 rfl ?_
    refine x_bipush hP dX12_moves_101 (v := 64) rfl ?_
    refine x_icmp_ge hP dX12_moves_103 (tgt := 195) (by decide) (fun c25 => ?_) (fun c25 => ?_)
    · replace hf := p_t c25 hf
      refine x_drop hP [none, none, some (.int l2), none, none, some (.int l5), none, none, none] (And.intro rfl (And.intro rfl trivial)) ?_
      cases hf
      exact hx
    · replace hf := p_f c25 hf
      refine x_iconst hP dX12_moves_106 (v := 0) rfl ?_
      refine x_istore hP (ls2 := [some (.ref 67), none, some (.int l2), some (.int l3), some (.int l4), some (.int l5), some (.int l6), some (.int (0 : Int32)), none]) dX12_moves_107 rfl rfl ?_
      refine x_iconst hP dX12_moves_109 (v := 0) rfl ?_
      refine x_istore hP (ls2 := [some (.ref 67), none, some (.int l2), some (.int l3), some (.int l4), some (.int l5), some (.int l6), some (.int (0 : Int32)), some (.int (0 : Int32))]) dX12_moves_110 rfl rfl ?_
      refine x_drop hP [some (.ref 67), none, some (.int l2), some (.int l3), some (.int l4), some (.int l5), some (.int l6), some (.int (0 : Int32)), some (.int (0 : Int32))] (And.intro rfl (And.intro rfl (And.intro rfl (And.intro rfl (And.intro rfl (And.intro rfl (And.intro rfl (And.intro rfl trivial)))))))) ?_
      obtain ⟨t32, hl33, hf⟩ := b_bd hf
      refine t_X12_moves_L112 hd hP _ _ _ _ _ _ _ _ _ _ hl33 ?_
      refine x_iload hP dX12_moves_151 rfl ?_
      refine x_iload hP dX12_moves_153 rfl ?_
      refine x_iconst hP dX12_moves_155 (v := (-1)) rfl ?_
      refine x_ixor hP dX12_moves_156 ?_
      refine x_iand hP dX12_moves_157 ?_
      refine x_if_ne hP dX12_moves_158 (tgt := 189) (by decide) (fun c34 => ?_) (fun c34 => ?_)
      · replace hf := p_f c34 hf
        obtain ⟨v46, hv46, hf⟩ := b_lt hf
        refine x_iinc hP (v := v46) (ls2 := [some (.ref 67), none, some (.int l2), some (.int l3), some (.int l4), some (.int l5), some (.int v46), some (.int t32), none]) dX12_moves_189 rfl (by rw [hv46]; rfl) rfl rfl ?_
        refine x_goto hP dX12_moves_192 (tgt := 99) (by decide) ?_
        refine x_drop hP [some (.ref 67), none, some (.int l2), some (.int l3), some (.int l4), some (.int l5), some (.int v46), none, none] (And.intro rfl (And.intro rfl (And.intro rfl (And.intro rfl (And.intro rfl (And.intro rfl trivial)))))) ?_
        exact ih _ _ _ _ _ _ _ hf hx
      · replace hf := p_t c34 hf
        refine x_iload hP dX12_moves_161 rfl ?_
        refine x_iload_n hP dX12_moves_163 rfl ?_
        refine x_icmp_lt hP dX12_moves_164 (tgt := 189) (by decide) (fun c35 => ?_) (fun c35 => ?_)
        · replace hf := p_t c35 hf
          obtain ⟨v36, hv36, hf⟩ := b_lt hf
          refine x_iinc hP (v := v36) (ls2 := [some (.ref 67), none, some (.int l2), some (.int l3), some (.int l4), some (.int l5), some (.int v36), some (.int t32), none]) dX12_moves_189 rfl (by rw [hv36]; rfl) rfl rfl ?_
          refine x_goto hP dX12_moves_192 (tgt := 99) (by decide) ?_
          refine x_drop hP [some (.ref 67), none, some (.int l2), some (.int l3), some (.int l4), some (.int l5), some (.int v36), none, none] (And.intro rfl (And.intro rfl (And.intro rfl (And.intro rfl (And.intro rfl (And.intro rfl trivial)))))) ?_
          exact ih _ _ _ _ _ _ _ hf hx
        · replace hf := p_f c35 hf
          refine x_iload hP dX12_moves_167 rfl ?_
          refine x_if_lt hP dX12_moves_169 (tgt := 185) (by decide) (fun c37 => ?_) (fun c37 => ?_)
          · replace hf := p_t c37 hf
            refine x_iload hP dX12_moves_185 rfl ?_
            refine x_istore hP (ls2 := [some (.ref 67), none, some (.int l2), some (.int l3), some (.int l4), some (.int l6), some (.int l6), some (.int t32), none]) dX12_moves_187 rfl rfl ?_
            obtain ⟨v38, hv38, hf⟩ := b_lt hf
            refine x_iinc hP (v := v38) (ls2 := [some (.ref 67), none, some (.int l2), some (.int l3), some (.int l4), some (.int l6), some (.int v38), some (.int t32), none]) dX12_moves_189 rfl (by rw [hv38]; rfl) rfl rfl ?_
            refine x_goto hP dX12_moves_192 (tgt := 99) (by decide) ?_
            refine x_drop hP [some (.ref 67), none, some (.int l2), some (.int l3), some (.int l4), some (.int l6), some (.int v38), none, none] (And.intro rfl (And.intro rfl (And.intro rfl (And.intro rfl (And.intro rfl (And.intro rfl trivial)))))) ?_
            exact ih _ _ _ _ _ _ _ hf hx
          · replace hf := p_f c37 hf
            refine x_iload hP dX12_moves_172 rfl ?_
            obtain ⟨v40, hc39, hf⟩ := b_bd hf
            refine y_csi hP oX12_bits lX12_435 [.int l6] [] rfl rfl rfl dX12_moves_174 (t_X12_bits (d := d - 1) (by omega) hc39) (by omega) ?_
            refine x_iload hP dX12_moves_177 rfl ?_
            obtain ⟨v42, hc41, hf⟩ := b_bd hf
            refine y_csi hP oX12_bits lX12_435 [.int l5] [.int v40] rfl rfl rfl dX12_moves_179 (t_X12_bits (d := d - 1) (by omega) hc41) (by omega) ?_
            refine x_icmp_ge hP dX12_moves_182 (tgt := 189) (by decide) (fun c43 => ?_) (fun c43 => ?_)
            · replace hf := p_t c43 hf
              obtain ⟨v44, hv44, hf⟩ := b_lt hf
              refine x_iinc hP (v := v44) (ls2 := [some (.ref 67), none, some (.int l2), some (.int l3), some (.int l4), some (.int l5), some (.int v44), some (.int t32), none]) dX12_moves_189 rfl (by rw [hv44]; rfl) rfl rfl ?_
              refine x_goto hP dX12_moves_192 (tgt := 99) (by decide) ?_
              refine x_drop hP [some (.ref 67), none, some (.int l2), some (.int l3), some (.int l4), some (.int l5), some (.int v44), none, none] (And.intro rfl (And.intro rfl (And.intro rfl (And.intro rfl (And.intro rfl (And.intro rfl trivial)))))) ?_
              exact ih _ _ _ _ _ _ _ hf hx
            · replace hf := p_f c43 hf
              refine x_iload hP dX12_moves_185 rfl ?_
              refine x_istore hP (ls2 := [some (.ref 67), none, some (.int l2), some (.int l3), some (.int l4), some (.int l6), some (.int l6), some (.int t32), none]) dX12_moves_187 rfl rfl ?_
              obtain ⟨v45, hv45, hf⟩ := b_lt hf
              refine x_iinc hP (v := v45) (ls2 := [some (.ref 67), none, some (.int l2), some (.int l3), some (.int l4), some (.int l6), some (.int v45), some (.int t32), none]) dX12_moves_189 rfl (by rw [hv45]; rfl) rfl rfl ?_
              refine x_goto hP dX12_moves_192 (tgt := 99) (by decide) ?_
              refine x_drop hP [some (.ref 67), none, some (.int l2), some (.int l3), some (.int l4), some (.int l6), some (.int v45), none, none] (And.intro rfl (And.intro rfl (And.intro rfl (And.intro rfl (And.intro rfl (And.intro rfl trivial)))))) ?_
              exact ih _ _ _ _ _ _ _ hf hx
set_option maxHeartbeats 1000000 in
set_option maxRecDepth 20000 in
theorem t_X12_moves {g : GG} {d : Nat} (hd : 3 ≤ d) {x1 : Int32} {x2 : Int32} {M : Mem} {r : Int32} {M' : Mem} (hf : f_X12_moves x1 x2 M = some (r, M')) : ExM g d iX12_moves [.ref 67, .int x1, .int x2] LAY M (some (.int r), LAY, M') := by
  have hd1 : 1 ≤ d := by omega
  refine ExM.main pnX12 rfl (ls := [some (.ref 67), some (.int x1), some (.int x2), none, none, none, none, none, none]) rfl ?_
  intro P hP
  rw [f_X12_moves] at hf
  refine x_aload_n hP dX12_moves_0 rfl ?_
  refine x_iload_n hP dX12_moves_1 rfl ?_
  obtain ⟨v2, hc1, hf⟩ := b_bd hf
  refine y_cvi hP oX12_isStreet lX12_405 [.int x1] [] rfl rfl rfl lay67 dX12_moves_2 (t_X12_isStreet (d := d - 1) (by omega) hc1) (by omega) ?_
  refine x_if_eq hP dX12_moves_5 (tgt := 17) (by decide) (fun c3 => ?_) (fun c3 => ?_)
  · replace hf := p_t c3 hf
    refine x_iconst hP dX12_moves_17 (v := (-1)) rfl ?_
    cases hf
    exact x_iret hP rfl dX12_moves_18
  · replace hf := p_f c3 hf
    refine x_iload_n hP dX12_moves_8 rfl ?_
    refine x_iconst hP dX12_moves_9 (v := 0) rfl ?_
    refine x_iconst hP dX12_moves_10 (v := 1) rfl ?_
    obtain ⟨v5, hc4, hf⟩ := b_bd hf
    refine y_csi hP oX12_in lX12_334 [.int x2, .int (0 : Int32), .int (1 : Int32)] [] rfl rfl rfl dX12_moves_11 (t_X12_in (d := d - 1) (by omega) hc4) (by omega) ?_
    refine x_if_ne hP dX12_moves_14 (tgt := 19) (by decide) (fun c6 => ?_) (fun c6 => ?_)
    · replace hf := p_f c6 hf
      refine x_aload_n hP dX12_moves_19 rfl ?_
      obtain ⟨M8, hc7, hf⟩ := b_bd hf
      refine y_cvv hP oX12_copies lX12_347 [] [] rfl rfl rfl lay67 dX12_moves_20 (t_X12_copies (d := d - 1) (by omega) hc7) (by omega) ?_
      refine x_aload_n hP dX12_moves_23 rfl ?_
      refine x_iload_n hP dX12_moves_24 rfl ?_
      obtain ⟨v10, hc9, hf⟩ := b_bd hf
      refine y_cvi hP oX12_needsOf lX12_408 [.int x1] [] rfl rfl rfl lay67 dX12_moves_25 (t_X12_needsOf (d := d - 1) (by omega) hc9) (by omega) ?_
      refine x_istore_n hP (ls2 := [some (.ref 67), some (.int x1), some (.int x2), some (.int v10), none, none, none, none, none]) dX12_moves_28 rfl rfl rfl ?_
      refine x_iconst hP dX12_moves_29 (v := 0) rfl ?_
      refine x_istore hP (ls2 := [some (.ref 67), some (.int x1), some (.int x2), some (.int v10), some (.int (0 : Int32)), none, none, none, none]) dX12_moves_30 rfl rfl ?_
      refine x_iconst hP dX12_moves_32 (v := 0) rfl ?_
      refine x_istore hP (ls2 := [some (.ref 67), some (.int x1), some (.int x2), some (.int v10), some (.int (0 : Int32)), some (.int (0 : Int32)), none, none, none]) dX12_moves_33 rfl rfl ?_
      refine x_drop hP [some (.ref 67), some (.int x1), some (.int x2), some (.int v10), some (.int (0 : Int32)), some (.int (0 : Int32)), none, none, none] (And.intro rfl (And.intro rfl (And.intro rfl (And.intro rfl (And.intro rfl (And.intro rfl trivial)))))) ?_
      obtain ⟨t23, hl24, hf⟩ := b_bd hf
      refine t_X12_moves_L35 hd hP _ _ _ _ _ _ _ _ hl24 ?_
      refine x_bipush hP dX12_moves_92 (v := (-2)) rfl ?_
      refine x_istore hP (ls2 := [some (.ref 67), none, some (.int x2), some (.int v10), some (.int t23), some (.int (-2 : Int32)), none, none, none]) dX12_moves_94 rfl rfl ?_
      refine x_iconst hP dX12_moves_96 (v := 0) rfl ?_
      refine x_istore hP (ls2 := [some (.ref 67), none, some (.int x2), some (.int v10), some (.int t23), some (.int (-2 : Int32)), some (.int (0 : Int32)), none, none]) dX12_moves_97 rfl rfl ?_
      refine x_drop hP [some (.ref 67), none, some (.int x2), some (.int v10), some (.int t23), some (.int (-2 : Int32)), some (.int (0 : Int32)), none, none] (And.intro rfl (And.intro rfl (And.intro rfl (And.intro rfl (And.intro rfl (And.intro rfl trivial)))))) ?_
      obtain ⟨t47, hl48, hf⟩ := b_bd hf
      refine t_X12_moves_L99 hd hP _ _ _ _ _ _ _ _ hl48 ?_
      refine x_iload hP dX12_moves_195 rfl ?_
      refine x_if_lt hP dX12_moves_197 (tgt := 205) (by decide) (fun c49 => ?_) (fun c49 => ?_)
      · replace hf := p_t c49 hf
        refine x_iload hP dX12_moves_205 rfl ?_
        refine x_goto hP dX12_moves_207 (tgt := 215) (by decide) ?_
        cases hf
        exact x_iret hP rfl dX12_moves_215
      · replace hf := p_f c49 hf
        refine x_iload_n hP dX12_moves_200 rfl ?_
        refine x_iconst hP dX12_moves_201 (v := 1) rfl ?_
        refine x_icmp_ne hP dX12_moves_202 (tgt := 210) (by decide) (fun c50 => ?_) (fun c50 => ?_)
        · replace hf := p_f c50 hf
          refine x_iload hP dX12_moves_210 rfl ?_
          obtain ⟨v52, hc51, hf⟩ := b_bd hf
          refine y_csi hP oX12_bits lX12_435 [.int t47] [] rfl rfl rfl dX12_moves_212 (t_X12_bits (d := d - 1) (by omega) hc51) (by omega) ?_
          cases hf
          exact x_iret hP rfl dX12_moves_215
        · replace hf := p_t c50 hf
          refine x_iload hP dX12_moves_205 rfl ?_
          refine x_goto hP dX12_moves_207 (tgt := 215) (by decide) ?_
          cases hf
          exact x_iret hP rfl dX12_moves_215
    · replace hf := p_t c6 hf
      refine x_iconst hP dX12_moves_17 (v := (-1)) rfl ?_
      cases hf
      exact x_iret hP rfl dX12_moves_18
def f_X12_tree_L36 : Nat → Int32 → Int32 → Int32 → Int32 → Int32 → Mem → Option (Int32)
  | 0, _, _, _, _, _, _ => none
  | fu + 1, l1, l2, l3, l4, l5, M =>
    (ag M 78 2 (M.1 67 18)).bind fun v5 =>
    if v5 ≤ l5 then
      some l4
    else
      lt (((10 : Int32) * (M.1 67 18)) + l5 : Int32) fun v7 =>
      (ag M 79 20 v7).bind fun v8 =>
      (ag M 80 20 v7).bind fun v9 =>
      if (l2 >>> (v8 &&& 31)) &&& (1 : Int32) = (l2 >>> (v9 &&& 31)) &&& (1 : Int32) then
        lt (l5 + 1 : Int32) fun v11 =>
        f_X12_tree_L36 fu l1 l2 l3 l4 v11 M
      else
        if l4 < 0 then
          lt (l5 + 1 : Int32) fun v13 =>
          f_X12_tree_L36 fu l1 l2 l3 v7 v13 M
        else
          (ag M 81 20 v7).bind fun v14 =>
          (ag M 81 20 l4).bind fun v15 =>
          if v15 ≤ v14 then
            lt (l5 + 1 : Int32) fun v17 =>
            f_X12_tree_L36 fu l1 l2 l3 l4 v17 M
          else
            lt (l5 + 1 : Int32) fun v18 =>
            f_X12_tree_L36 fu l1 l2 l3 v7 v18 M
def f_X12_tree_L25 (k : Int32 → Option (Int32)) : Nat → Int32 → Int32 → Int32 → Mem → Option (Int32)
  | 0, _, _, _, _ => none
  | fu + 1, l1, l2, l3, M =>
    if l2 = l1 then
      k l3
    else
      (f_X12_tree_L36 FU l1 l2 l3 (-1 : Int32) (0 : Int32) M).bind fun t19 =>
      if 0 ≤ t19 then
        (ag M 79 20 t19).bind fun v22 =>
        (ag M 80 20 t19).bind fun v23 =>
        lt (l2 ||| (((1 : Int32) <<< (v22 &&& 31)) ||| ((1 : Int32) <<< (v23 &&& 31))) : Int32) fun v24 =>
        (ag M 81 20 t19).bind fun v25 =>
        lt (l3 + v25 : Int32) fun v26 =>
        f_X12_tree_L25 k fu l1 v24 v26 M
      else
        some (-2 : Int32)
def f_X12_tree (M : Mem) : Option (Int32) :=
  (ag M 77 2 (M.1 67 18)).bind fun v1 =>
  lt (((1 : Int32) <<< (v1 &&& 31)) - (1 : Int32) : Int32) fun v2 =>
  if v2 = 0 then
    some (-2 : Int32)
  else
    f_X12_tree_L25 (fun t27 =>
        some t27
      ) FU v2 (1 : Int32) (0 : Int32) M
set_option maxHeartbeats 1000000 in
set_option maxRecDepth 20000 in
theorem t_X12_tree_L36 {g : GG} {d : Nat} {P : PT} {res : Option RS} (hd : 1 ≤ d)  (hP : IsM g iX12_tree d res P) : ∀ (fu : Nat) (l1 : Int32) (l2 : Int32) (l3 : Int32) (l4 : Int32) (l5 : Int32) (M : Mem) (t : Int32), f_X12_tree_L36 fu l1 l2 l3 l4 l5 M = some t → P 119 [some (.ref 67), some (.int l1), some (.int l2), some (.int l3), some (.int t), none, none] [] LAY M → P 36 [some (.ref 67), some (.int l1), some (.int l2), some (.int l3), some (.int l4), some (.int l5), none] [] LAY M := by
  have hd1 : 1 ≤ d := by omega
  intro fu
  induction fu with
  | zero => intro l1 l2 l3 l4 l5 M t hf; simp [f_X12_tree_L36] at hf
  | succ fu ih =>
    intro l1 l2 l3 l4 l5 M t hf hx
    rw [f_X12_tree_L36] at hf
    refine x_iload hP dX12_tree_36 rfl ?_
    refine x_aload_n hP dX12_tree_38 rfl ?_
    refine x_getA hP fX12_49 lay67 (r := 78) rfl dX12_tree_39 ?_
    refine x_aload_n hP dX12_tree_42 rfl ?_
    refine x_getI hP fX12_251 lay67 dX12_tree_43 ?_
    obtain ⟨v5, hiv5, hv5, hf⟩ := b_ag hf
    refine y_ald hP lay78 hiv5 hv5 dX12_tree_46 ?_
    refine x_icmp_ge hP dX12_tree_47 (tgt := 119) (by decide) (fun c6 => ?_) (fun c6 => ?_)
    · replace hf := p_t c6 hf
      refine x_drop hP [some (.ref 67), some (.int l1), some (.int l2), some (.int l3), some (.int l4), none, none] (And.intro rfl (And.intro rfl (And.intro rfl (And.intro rfl (And.intro rfl trivial))))) ?_
      cases hf
      exact hx
    · replace hf := p_f c6 hf
      refine x_bipush hP dX12_tree_50 (v := 10) rfl ?_
      refine x_aload_n hP dX12_tree_52 rfl ?_
      refine x_getI hP fX12_251 lay67 dX12_tree_53 ?_
      refine x_imul hP dX12_tree_56 ?_
      refine x_iload hP dX12_tree_57 rfl ?_
      refine x_iadd hP dX12_tree_59 ?_
      obtain ⟨v7, hv7, hf⟩ := b_lt hf
      refine y_nmI hv7 ?_
      refine x_istore hP (ls2 := [some (.ref 67), some (.int l1), some (.int l2), some (.int l3), some (.int l4), some (.int l5), some (.int v7)]) dX12_tree_60 rfl rfl ?_
      refine x_iload_n hP dX12_tree_62 rfl ?_
      refine x_aload_n hP dX12_tree_63 rfl ?_
      refine x_getA hP fX12_52 lay67 (r := 79) rfl dX12_tree_64 ?_
      refine x_iload hP dX12_tree_67 rfl ?_
      obtain ⟨v8, hiv8, hv8, hf⟩ := b_ag hf
      refine y_ald hP lay79 hiv8 hv8 dX12_tree_69 ?_
      refine x_ishr hP dX12_tree_70 ?_
      refine x_iconst hP dX12_tree_71 (v := 1) rfl ?_
      refine x_iand hP dX12_tree_72 ?_
      refine x_iload_n hP dX12_tree_73 rfl ?_
      refine x_aload_n hP dX12_tree_74 rfl ?_
      refine x_getA hP fX12_55 lay67 (r := 80) rfl dX12_tree_75 ?_
      refine x_iload hP dX12_tree_78 rfl ?_
      obtain ⟨v9, hiv9, hv9, hf⟩ := b_ag hf
      refine y_ald hP lay80 hiv9 hv9 dX12_tree_80 ?_
      refine x_ishr hP dX12_tree_81 ?_
      refine x_iconst hP dX12_tree_82 (v := 1) rfl ?_
      refine x_iand hP dX12_tree_83 ?_
      refine x_icmp_eq hP dX12_tree_84 (tgt := 113) (by decide) (fun c10 => ?_) (fun c10 => ?_)
      · replace hf := p_t c10 hf
        obtain ⟨v11, hv11, hf⟩ := b_lt hf
        refine x_iinc hP (v := v11) (ls2 := [some (.ref 67), some (.int l1), some (.int l2), some (.int l3), some (.int l4), some (.int v11), some (.int v7)]) dX12_tree_113 rfl (by rw [hv11]; rfl) rfl rfl ?_
        refine x_goto hP dX12_tree_116 (tgt := 36) (by decide) ?_
        refine x_drop hP [some (.ref 67), some (.int l1), some (.int l2), some (.int l3), some (.int l4), some (.int v11), none] (And.intro rfl (And.intro rfl (And.intro rfl (And.intro rfl (And.intro rfl (And.intro rfl trivial)))))) ?_
        exact ih _ _ _ _ _ _ _ hf hx
      · replace hf := p_f c10 hf
        refine x_iload hP dX12_tree_87 rfl ?_
        refine x_if_lt hP dX12_tree_89 (tgt := 109) (by decide) (fun c12 => ?_) (fun c12 => ?_)
        · replace hf := p_t c12 hf
          refine x_iload hP dX12_tree_109 rfl ?_
          refine x_istore hP (ls2 := [some (.ref 67), some (.int l1), some (.int l2), some (.int l3), some (.int v7), some (.int l5), some (.int v7)]) dX12_tree_111 rfl rfl ?_
          obtain ⟨v13, hv13, hf⟩ := b_lt hf
          refine x_iinc hP (v := v13) (ls2 := [some (.ref 67), some (.int l1), some (.int l2), some (.int l3), some (.int v7), some (.int v13), some (.int v7)]) dX12_tree_113 rfl (by rw [hv13]; rfl) rfl rfl ?_
          refine x_goto hP dX12_tree_116 (tgt := 36) (by decide) ?_
          refine x_drop hP [some (.ref 67), some (.int l1), some (.int l2), some (.int l3), some (.int v7), some (.int v13), none] (And.intro rfl (And.intro rfl (And.intro rfl (And.intro rfl (And.intro rfl (And.intro rfl trivial)))))) ?_
          exact ih _ _ _ _ _ _ _ hf hx
        · replace hf := p_f c12 hf
          refine x_aload_n hP dX12_tree_92 rfl ?_
          refine x_getA hP fX12_58 lay67 (r := 81) rfl dX12_tree_93 ?_
          refine x_iload hP dX12_tree_96 rfl ?_
          obtain ⟨v14, hiv14, hv14, hf⟩ := b_ag hf
          refine y_ald hP lay81 hiv14 hv14 dX12_tree_98 ?_
          refine x_aload_n hP dX12_tree_99 rfl ?_
          refine x_getA hP fX12_58 lay67 (r := 81) rfl dX12_tree_100 ?_
          refine x_iload hP dX12_tree_103 rfl ?_
          obtain ⟨v15, hiv15, hv15, hf⟩ := b_ag hf
          refine y_ald hP lay81 hiv15 hv15 dX12_tree_105 ?_
          refine x_icmp_ge hP dX12_tree_106 (tgt := 113) (by decide) (fun c16 => ?_) (fun c16 => ?_)
          · replace hf := p_t c16 hf
            obtain ⟨v17, hv17, hf⟩ := b_lt hf
            refine x_iinc hP (v := v17) (ls2 := [some (.ref 67), some (.int l1), some (.int l2), some (.int l3), some (.int l4), some (.int v17), some (.int v7)]) dX12_tree_113 rfl (by rw [hv17]; rfl) rfl rfl ?_
            refine x_goto hP dX12_tree_116 (tgt := 36) (by decide) ?_
            refine x_drop hP [some (.ref 67), some (.int l1), some (.int l2), some (.int l3), some (.int l4), some (.int v17), none] (And.intro rfl (And.intro rfl (And.intro rfl (And.intro rfl (And.intro rfl (And.intro rfl trivial)))))) ?_
            exact ih _ _ _ _ _ _ _ hf hx
          · replace hf := p_f c16 hf
            refine x_iload hP dX12_tree_109 rfl ?_
            refine x_istore hP (ls2 := [some (.ref 67), some (.int l1), some (.int l2), some (.int l3), some (.int v7), some (.int l5), some (.int v7)]) dX12_tree_111 rfl rfl ?_
            obtain ⟨v18, hv18, hf⟩ := b_lt hf
            refine x_iinc hP (v := v18) (ls2 := [some (.ref 67), some (.int l1), some (.int l2), some (.int l3), some (.int v7), some (.int v18), some (.int v7)]) dX12_tree_113 rfl (by rw [hv18]; rfl) rfl rfl ?_
            refine x_goto hP dX12_tree_116 (tgt := 36) (by decide) ?_
            refine x_drop hP [some (.ref 67), some (.int l1), some (.int l2), some (.int l3), some (.int v7), some (.int v18), none] (And.intro rfl (And.intro rfl (And.intro rfl (And.intro rfl (And.intro rfl (And.intro rfl trivial)))))) ?_
            exact ih _ _ _ _ _ _ _ hf hx
set_option maxHeartbeats 1000000 in
set_option maxRecDepth 20000 in
theorem t_X12_tree_L25 {g : GG} {d : Nat} {P : PT} {M : Mem} {r : Int32} (hd : 1 ≤ d)  {l1 : Int32} (hP : IsM g iX12_tree d (some (some (.int r), LAY, M)) P) {k : Int32 → Option (Int32)} (hk : ∀ t : Int32, k t = some r → P 162 [none, none, none, some (.int t), none, none, none] [] LAY M) : ∀ (fu : Nat) (l2 : Int32) (l3 : Int32), f_X12_tree_L25 k fu l1 l2 l3 M = some r → P 25 [some (.ref 67), some (.int l1), some (.int l2), some (.int l3), none, none, none] [] LAY M := by
  have hd1 : 1 ≤ d := by omega
  intro fu
  induction fu with
  | zero => intro l2 l3 hf; simp [f_X12_tree_L25] at hf
  | succ fu ih =>
    intro l2 l3 hf
    rw [f_X12_tree_L25] at hf
    refine x_iload_n hP dX12_tree_25 rfl ?_
    refine x_iload_n hP dX12_tree_26 rfl ?_
    refine x_icmp_eq hP dX12_tree_27 (tgt := 162) (by decide) (fun c4 => ?_) (fun c4 => ?_)
    · replace hf := p_t c4 hf
      refine x_drop hP [none, none, none, some (.int l3), none, none, none] (And.intro rfl trivial) ?_
      exact hk _ hf
    · replace hf := p_f c4 hf
      refine x_iconst hP dX12_tree_30 (v := (-1)) rfl ?_
      refine x_istore hP (ls2 := [some (.ref 67), some (.int l1), some (.int l2), some (.int l3), some (.int (-1 : Int32)), none, none]) dX12_tree_31 rfl rfl ?_
      refine x_iconst hP dX12_tree_33 (v := 0) rfl ?_
      refine x_istore hP (ls2 := [some (.ref 67), some (.int l1), some (.int l2), some (.int l3), some (.int (-1 : Int32)), some (.int (0 : Int32)), none]) dX12_tree_34 rfl rfl ?_
      refine x_drop hP [some (.ref 67), some (.int l1), some (.int l2), some (.int l3), some (.int (-1 : Int32)), some (.int (0 : Int32)), none] (And.intro rfl (And.intro rfl (And.intro rfl (And.intro rfl (And.intro rfl (And.intro rfl trivial)))))) ?_
      obtain ⟨t19, hl20, hf⟩ := b_bd hf
      refine t_X12_tree_L36 hd hP _ _ _ _ _ _ _ _ hl20 ?_
      refine x_iload hP dX12_tree_119 rfl ?_
      refine x_if_ge hP dX12_tree_121 (tgt := 127) (by decide) (fun c21 => ?_) (fun c21 => ?_)
      · replace hf := p_t c21 hf
        refine x_iload_n hP dX12_tree_127 rfl ?_
        refine x_iconst hP dX12_tree_128 (v := 1) rfl ?_
        refine x_aload_n hP dX12_tree_129 rfl ?_
        refine x_getA hP fX12_52 lay67 (r := 79) rfl dX12_tree_130 ?_
        refine x_iload hP dX12_tree_133 rfl ?_
        obtain ⟨v22, hiv22, hv22, hf⟩ := b_ag hf
        refine y_ald hP lay79 hiv22 hv22 dX12_tree_135 ?_
        refine x_ishl hP dX12_tree_136 ?_
        refine x_iconst hP dX12_tree_137 (v := 1) rfl ?_
        refine x_aload_n hP dX12_tree_138 rfl ?_
        refine x_getA hP fX12_55 lay67 (r := 80) rfl dX12_tree_139 ?_
        refine x_iload hP dX12_tree_142 rfl ?_
        obtain ⟨v23, hiv23, hv23, hf⟩ := b_ag hf
        refine y_ald hP lay80 hiv23 hv23 dX12_tree_144 ?_
        refine x_ishl hP dX12_tree_145 ?_
        refine x_ior hP dX12_tree_146 ?_
        refine x_ior hP dX12_tree_147 ?_
        obtain ⟨v24, hv24, hf⟩ := b_lt hf
        refine y_nmI hv24 ?_
        refine x_istore_n hP (ls2 := [some (.ref 67), some (.int l1), some (.int v24), some (.int l3), some (.int t19), none, none]) dX12_tree_148 rfl rfl rfl ?_
        refine x_iload_n hP dX12_tree_149 rfl ?_
        refine x_aload_n hP dX12_tree_150 rfl ?_
        refine x_getA hP fX12_58 lay67 (r := 81) rfl dX12_tree_151 ?_
        refine x_iload hP dX12_tree_154 rfl ?_
        obtain ⟨v25, hiv25, hv25, hf⟩ := b_ag hf
        refine y_ald hP lay81 hiv25 hv25 dX12_tree_156 ?_
        refine x_iadd hP dX12_tree_157 ?_
        obtain ⟨v26, hv26, hf⟩ := b_lt hf
        refine y_nmI hv26 ?_
        refine x_istore_n hP (ls2 := [some (.ref 67), some (.int l1), some (.int v24), some (.int v26), some (.int t19), none, none]) dX12_tree_158 rfl rfl rfl ?_
        refine x_goto hP dX12_tree_159 (tgt := 25) (by decide) ?_
        refine x_drop hP [some (.ref 67), some (.int l1), some (.int v24), some (.int v26), none, none, none] (And.intro rfl (And.intro rfl (And.intro rfl (And.intro rfl trivial)))) ?_
        exact ih _ _ hf
      · replace hf := p_f c21 hf
        refine x_bipush hP dX12_tree_124 (v := (-2)) rfl ?_
        cases hf
        exact x_iret hP rfl dX12_tree_126
set_option maxHeartbeats 1000000 in
set_option maxRecDepth 20000 in
theorem t_X12_tree {g : GG} {d : Nat} (hd : 1 ≤ d) {M : Mem} {r : Int32} (hf : f_X12_tree M = some r) : ExM g d iX12_tree [.ref 67] LAY M (some (.int r), LAY, M) := by
  have hd1 : 1 ≤ d := by omega
  refine ExM.main pnX12 rfl (ls := [some (.ref 67), none, none, none, none, none, none]) rfl ?_
  intro P hP
  rw [f_X12_tree] at hf
  refine x_iconst hP dX12_tree_0 (v := 1) rfl ?_
  refine x_aload_n hP dX12_tree_1 rfl ?_
  refine x_getA hP fX12_46 lay67 (r := 77) rfl dX12_tree_2 ?_
  refine x_aload_n hP dX12_tree_5 rfl ?_
  refine x_getI hP fX12_251 lay67 dX12_tree_6 ?_
  obtain ⟨v1, hiv1, hv1, hf⟩ := b_ag hf
  refine y_ald hP lay77 hiv1 hv1 dX12_tree_9 ?_
  refine x_ishl hP dX12_tree_10 ?_
  refine x_iconst hP dX12_tree_11 (v := 1) rfl ?_
  refine x_isub hP dX12_tree_12 ?_
  obtain ⟨v2, hv2, hf⟩ := b_lt hf
  refine y_nmI hv2 ?_
  refine x_istore_n hP (ls2 := [some (.ref 67), some (.int v2), none, none, none, none, none]) dX12_tree_13 rfl rfl rfl ?_
  refine x_iload_n hP dX12_tree_14 rfl ?_
  refine x_if_ne hP dX12_tree_15 (tgt := 21) (by decide) (fun c3 => ?_) (fun c3 => ?_)
  · replace hf := p_f c3 hf
    refine x_iconst hP dX12_tree_21 (v := 1) rfl ?_
    refine x_istore_n hP (ls2 := [some (.ref 67), some (.int v2), some (.int (1 : Int32)), none, none, none, none]) dX12_tree_22 rfl rfl rfl ?_
    refine x_iconst hP dX12_tree_23 (v := 0) rfl ?_
    refine x_istore_n hP (ls2 := [some (.ref 67), some (.int v2), some (.int (1 : Int32)), some (.int (0 : Int32)), none, none, none]) dX12_tree_24 rfl rfl rfl ?_
    refine x_drop hP [some (.ref 67), some (.int v2), some (.int (1 : Int32)), some (.int (0 : Int32)), none, none, none] (And.intro rfl (And.intro rfl (And.intro rfl (And.intro rfl trivial)))) ?_
    refine t_X12_tree_L25 hd hP (fun t27 hf => ?_) _ _ _ hf
    refine x_iload_n hP dX12_tree_162 rfl ?_
    cases hf
    exact x_iret hP rfl dX12_tree_163
  · replace hf := p_t c3 hf
    refine x_bipush hP dX12_tree_18 (v := (-2)) rfl ?_
    cases hf
    exact x_iret hP rfl dX12_tree_20
def f_X12_homeBits_L4 : Nat → Int32 → Int32 → Mem → Option (Int32)
  | 0, _, _, _ => none
  | fu + 1, l1, l2, M =>
    (ag M 82 2 (M.1 67 18)).bind fun v1 =>
    if v1 ≤ l2 then
      some l1
    else
      (ag M 104 48 ((12 : Int32) + l2)).bind fun v3 =>
      lt (l1 ||| (v3 <<< (l2 &&& 31)) : Int32) fun v4 =>
      lt (l2 + 1 : Int32) fun v5 =>
      f_X12_homeBits_L4 fu v4 v5 M
def f_X12_homeBits (M : Mem) : Option (Int32) :=
  (f_X12_homeBits_L4 FU (0 : Int32) (0 : Int32) M).bind fun t6 =>
  some t6
set_option maxHeartbeats 1000000 in
set_option maxRecDepth 20000 in
theorem t_X12_homeBits_L4 {g : GG} {d : Nat} {P : PT} {res : Option RS} (hd : 1 ≤ d)  (hP : IsM g iX12_homeBits d res P) : ∀ (fu : Nat) (l1 : Int32) (l2 : Int32) (M : Mem) (t : Int32), f_X12_homeBits_L4 fu l1 l2 M = some t → P 37 [none, some (.int t), none] [] LAY M → P 4 [some (.ref 67), some (.int l1), some (.int l2)] [] LAY M := by
  have hd1 : 1 ≤ d := by omega
  intro fu
  induction fu with
  | zero => intro l1 l2 M t hf; simp [f_X12_homeBits_L4] at hf
  | succ fu ih =>
    intro l1 l2 M t hf hx
    rw [f_X12_homeBits_L4] at hf
    refine x_iload_n hP dX12_homeBits_4 rfl ?_
    refine x_aload_n hP dX12_homeBits_5 rfl ?_
    refine x_getA hP fX12_61 lay67 (r := 82) rfl dX12_homeBits_6 ?_
    refine x_aload_n hP dX12_homeBits_9 rfl ?_
    refine x_getI hP fX12_251 lay67 dX12_homeBits_10 ?_
    obtain ⟨v1, hiv1, hv1, hf⟩ := b_ag hf
    refine y_ald hP lay82 hiv1 hv1 dX12_homeBits_13 ?_
    refine x_icmp_ge hP dX12_homeBits_14 (tgt := 37) (by decide) (fun c2 => ?_) (fun c2 => ?_)
    · replace hf := p_t c2 hf
      refine x_drop hP [none, some (.int l1), none] (And.intro rfl trivial) ?_
      cases hf
      exact hx
    · replace hf := p_f c2 hf
      refine x_iload_n hP dX12_homeBits_17 rfl ?_
      refine x_aload_n hP dX12_homeBits_18 rfl ?_
      refine x_getA hP fX12_128 lay67 (r := 104) rfl dX12_homeBits_19 ?_
      refine x_bipush hP dX12_homeBits_22 (v := 12) rfl ?_
      refine x_iload_n hP dX12_homeBits_24 rfl ?_
      refine x_iadd hP dX12_homeBits_25 ?_
      obtain ⟨v3, hiv3, hv3, hf⟩ := b_ag hf
      refine y_ald hP lay104 hiv3 hv3 dX12_homeBits_26 ?_
      refine x_iload_n hP dX12_homeBits_27 rfl ?_
      refine x_ishl hP dX12_homeBits_28 ?_
      refine x_ior hP dX12_homeBits_29 ?_
      obtain ⟨v4, hv4, hf⟩ := b_lt hf
      refine y_nmI hv4 ?_
      refine x_istore_n hP (ls2 := [some (.ref 67), some (.int v4), some (.int l2)]) dX12_homeBits_30 rfl rfl rfl ?_
      obtain ⟨v5, hv5, hf⟩ := b_lt hf
      refine x_iinc hP (v := v5) (ls2 := [some (.ref 67), some (.int v4), some (.int v5)]) dX12_homeBits_31 rfl (by rw [hv5]; rfl) rfl rfl ?_
      refine x_goto hP dX12_homeBits_34 (tgt := 4) (by decide) ?_
      refine x_drop hP [some (.ref 67), some (.int v4), some (.int v5)] (And.intro rfl (And.intro rfl (And.intro rfl trivial))) ?_
      exact ih _ _ _ _ hf hx
set_option maxHeartbeats 1000000 in
set_option maxRecDepth 20000 in
theorem t_X12_homeBits {g : GG} {d : Nat} (hd : 1 ≤ d) {M : Mem} {r : Int32} (hf : f_X12_homeBits M = some r) : ExM g d iX12_homeBits [.ref 67] LAY M (some (.int r), LAY, M) := by
  have hd1 : 1 ≤ d := by omega
  refine ExM.main pnX12 rfl (ls := [some (.ref 67), none, none]) rfl ?_
  intro P hP
  rw [f_X12_homeBits] at hf
  refine x_iconst hP dX12_homeBits_0 (v := 0) rfl ?_
  refine x_istore_n hP (ls2 := [some (.ref 67), some (.int (0 : Int32)), none]) dX12_homeBits_1 rfl rfl rfl ?_
  refine x_iconst hP dX12_homeBits_2 (v := 0) rfl ?_
  refine x_istore_n hP (ls2 := [some (.ref 67), some (.int (0 : Int32)), some (.int (0 : Int32))]) dX12_homeBits_3 rfl rfl rfl ?_
  refine x_drop hP [some (.ref 67), some (.int (0 : Int32)), some (.int (0 : Int32))] (And.intro rfl (And.intro rfl (And.intro rfl trivial))) ?_
  obtain ⟨t6, hl7, hf⟩ := b_bd hf
  refine t_X12_homeBits_L4 hd hP _ _ _ _ _ hl7 ?_
  refine x_iload_n hP dX12_homeBits_37 rfl ?_
  cases hf
  exact x_iret hP rfl dX12_homeBits_38
def f_X12_glowIn (x1 : Int32) (x2 : Int32) (M : Mem) : Option (Int32 × Mem) :=
  (f_X12_isYoung x1 M).bind fun v2 =>
  if v2 = 0 then
    some ((-1 : Int32), M)
  else
    (f_X12_in x2 (0 : Int32) (72 : Int32)).bind fun v5 =>
    if v5 = 0 then
      some ((-1 : Int32), M)
    else
      (f_X12_copies M).bind fun M8 =>
      (f_X12_goes x2 M8).bind fun M10 =>
      (ag M10 104 48 ((6 : Int32) + x1)).bind fun v11 =>
      some (v11, M10)
set_option maxHeartbeats 1000000 in
set_option maxRecDepth 20000 in
theorem t_X12_glowIn {g : GG} {d : Nat} (hd : 6 ≤ d) {x1 : Int32} {x2 : Int32} {M : Mem} {r : Int32} {M' : Mem} (hf : f_X12_glowIn x1 x2 M = some (r, M')) : ExM g d iX12_glowIn [.ref 67, .int x1, .int x2] LAY M (some (.int r), LAY, M') := by
  have hd1 : 1 ≤ d := by omega
  refine ExM.main pnX12 rfl (ls := [some (.ref 67), some (.int x1), some (.int x2)]) rfl ?_
  intro P hP
  rw [f_X12_glowIn] at hf
  refine x_aload_n hP dX12_glowIn_0 rfl ?_
  refine x_iload_n hP dX12_glowIn_1 rfl ?_
  obtain ⟨v2, hc1, hf⟩ := b_bd hf
  refine y_cvi hP oX12_isYoung lX12_338 [.int x1] [] rfl rfl rfl lay67 dX12_glowIn_2 (t_X12_isYoung (d := d - 1) (by omega) hc1) (by omega) ?_
  refine x_if_eq hP dX12_glowIn_5 (tgt := 18) (by decide) (fun c3 => ?_) (fun c3 => ?_)
  · replace hf := p_t c3 hf
    refine x_iconst hP dX12_glowIn_18 (v := (-1)) rfl ?_
    cases hf
    exact x_iret hP rfl dX12_glowIn_19
  · replace hf := p_f c3 hf
    refine x_iload_n hP dX12_glowIn_8 rfl ?_
    refine x_iconst hP dX12_glowIn_9 (v := 0) rfl ?_
    refine x_bipush hP dX12_glowIn_10 (v := 72) rfl ?_
    obtain ⟨v5, hc4, hf⟩ := b_bd hf
    refine y_csi hP oX12_in lX12_334 [.int x2, .int (0 : Int32), .int (72 : Int32)] [] rfl rfl rfl dX12_glowIn_12 (t_X12_in (d := d - 1) (by omega) hc4) (by omega) ?_
    refine x_if_ne hP dX12_glowIn_15 (tgt := 20) (by decide) (fun c6 => ?_) (fun c6 => ?_)
    · replace hf := p_f c6 hf
      refine x_aload_n hP dX12_glowIn_20 rfl ?_
      obtain ⟨M8, hc7, hf⟩ := b_bd hf
      refine y_cvv hP oX12_copies lX12_347 [] [] rfl rfl rfl lay67 dX12_glowIn_21 (t_X12_copies (d := d - 1) (by omega) hc7) (by omega) ?_
      refine x_aload_n hP dX12_glowIn_24 rfl ?_
      refine x_iload_n hP dX12_glowIn_25 rfl ?_
      obtain ⟨M10, hc9, hf⟩ := b_bd hf
      refine y_cvv hP oX12_goes lX12_426 [.int x2] [] rfl rfl rfl lay67 dX12_glowIn_26 (t_X12_goes (d := d - 1) (by omega) hc9) (by omega) ?_
      refine x_aload_n hP dX12_glowIn_29 rfl ?_
      refine x_getA hP fX12_128 lay67 (r := 104) rfl dX12_glowIn_30 ?_
      refine x_bipush hP dX12_glowIn_33 (v := 6) rfl ?_
      refine x_iload_n hP dX12_glowIn_35 rfl ?_
      refine x_iadd hP dX12_glowIn_36 ?_
      obtain ⟨v11, hiv11, hv11, hf⟩ := b_ag hf
      refine y_ald hP lay104 hiv11 hv11 dX12_glowIn_37 ?_
      cases hf
      exact x_iret hP rfl dX12_glowIn_38
    · replace hf := p_t c6 hf
      refine x_iconst hP dX12_glowIn_18 (v := (-1)) rfl ?_
      cases hf
      exact x_iret hP rfl dX12_glowIn_19
def f_X12_then (x1 : Int32) (x2 : Int32) (M : Mem) : Option (Int32 × Mem) :=
  (f_X12_in x1 (0 : Int32) (72 : Int32)).bind fun v2 =>
  if v2 = 0 then
    some ((-1 : Int32), M)
  else
    (f_X12_in x2 (0 : Int32) (1 : Int32)).bind fun v5 =>
    if v5 = 0 then
      some ((-1 : Int32), M)
    else
      (f_X12_copies M).bind fun M8 =>
      (f_X12_goes x1 M8).bind fun M10 =>
      if x2 = 0 then
        (f_X12_litBits M10).bind fun t13 =>
        some (t13.1, t13.2)
      else
        (f_X12_homeBits M10).bind fun v15 =>
        some (v15, M10)
set_option maxHeartbeats 1000000 in
set_option maxRecDepth 20000 in
theorem t_X12_then {g : GG} {d : Nat} (hd : 6 ≤ d) {x1 : Int32} {x2 : Int32} {M : Mem} {r : Int32} {M' : Mem} (hf : f_X12_then x1 x2 M = some (r, M')) : ExM g d iX12_then [.ref 67, .int x1, .int x2] LAY M (some (.int r), LAY, M') := by
  have hd1 : 1 ≤ d := by omega
  refine ExM.main pnX12 rfl (ls := [some (.ref 67), some (.int x1), some (.int x2)]) rfl ?_
  intro P hP
  rw [f_X12_then] at hf
  refine x_iload_n hP dX12_then_0 rfl ?_
  refine x_iconst hP dX12_then_1 (v := 0) rfl ?_
  refine x_bipush hP dX12_then_2 (v := 72) rfl ?_
  obtain ⟨v2, hc1, hf⟩ := b_bd hf
  refine y_csi hP oX12_in lX12_334 [.int x1, .int (0 : Int32), .int (72 : Int32)] [] rfl rfl rfl dX12_then_4 (t_X12_in (d := d - 1) (by omega) hc1) (by omega) ?_
  refine x_if_eq hP dX12_then_7 (tgt := 19) (by decide) (fun c3 => ?_) (fun c3 => ?_)
  · replace hf := p_t c3 hf
    refine x_iconst hP dX12_then_19 (v := (-1)) rfl ?_
    cases hf
    exact x_iret hP rfl dX12_then_20
  · replace hf := p_f c3 hf
    refine x_iload_n hP dX12_then_10 rfl ?_
    refine x_iconst hP dX12_then_11 (v := 0) rfl ?_
    refine x_iconst hP dX12_then_12 (v := 1) rfl ?_
    obtain ⟨v5, hc4, hf⟩ := b_bd hf
    refine y_csi hP oX12_in lX12_334 [.int x2, .int (0 : Int32), .int (1 : Int32)] [] rfl rfl rfl dX12_then_13 (t_X12_in (d := d - 1) (by omega) hc4) (by omega) ?_
    refine x_if_ne hP dX12_then_16 (tgt := 21) (by decide) (fun c6 => ?_) (fun c6 => ?_)
    · replace hf := p_f c6 hf
      refine x_aload_n hP dX12_then_21 rfl ?_
      obtain ⟨M8, hc7, hf⟩ := b_bd hf
      refine y_cvv hP oX12_copies lX12_347 [] [] rfl rfl rfl lay67 dX12_then_22 (t_X12_copies (d := d - 1) (by omega) hc7) (by omega) ?_
      refine x_aload_n hP dX12_then_25 rfl ?_
      refine x_iload_n hP dX12_then_26 rfl ?_
      obtain ⟨M10, hc9, hf⟩ := b_bd hf
      refine y_cvv hP oX12_goes lX12_426 [.int x1] [] rfl rfl rfl lay67 dX12_then_27 (t_X12_goes (d := d - 1) (by omega) hc9) (by omega) ?_
      refine x_iload_n hP dX12_then_30 rfl ?_
      refine x_if_ne hP dX12_then_31 (tgt := 41) (by decide) (fun c11 => ?_) (fun c11 => ?_)
      · replace hf := p_f c11 hf
        refine x_aload_n hP dX12_then_41 rfl ?_
        obtain ⟨v15, hc14, hf⟩ := b_bd hf
        refine y_cvi hP oX12_homeBits lX12_462 [] [] rfl rfl rfl lay67 dX12_then_42 (t_X12_homeBits (d := d - 1) (by omega) hc14) (by omega) ?_
        cases hf
        exact x_iret hP rfl dX12_then_45
      · replace hf := p_t c11 hf
        refine x_aload_n hP dX12_then_34 rfl ?_
        obtain ⟨t13, hc12, hf⟩ := b_bd hf
        refine y_cvi hP oX12_litBits lX12_432 [] [] rfl rfl rfl lay67 dX12_then_35 (t_X12_litBits (d := d - 1) (by omega) hc12) (by omega) ?_
        refine x_goto hP dX12_then_38 (tgt := 45) (by decide) ?_
        cases hf
        exact x_iret hP rfl dX12_then_45
    · replace hf := p_t c6 hf
      refine x_iconst hP dX12_then_19 (v := (-1)) rfl ?_
      cases hf
      exact x_iret hP rfl dX12_then_20
def f_X12_year_L36 : Nat → Int32 → Int32 → Int32 → Int32 → Int32 → Mem → Option (Int32 × Mem)
  | 0, _, _, _, _, _, _ => none
  | fu + 1, l1, l2, l3, l4, l5, M =>
    if l3 ≤ l5 then
      some (l4, M)
    else
      (f_X12_copies M).bind fun M12 =>
      lt (sI M12 67 55 ((M12.1 67 55) + l5)) fun M13 =>
      (f_X12_goes l2 M13).bind fun M15 =>
      (f_X12_needsOf l1 M15).bind fun v17 =>
      if v17 = 0 then
        lt (l4 + 1 : Int32) fun v19 =>
        lt (l5 + 1 : Int32) fun v20 =>
        f_X12_year_L36 fu l1 l2 l3 v19 v20 M15
      else
        lt (l5 + 1 : Int32) fun v21 =>
        f_X12_year_L36 fu l1 l2 l3 l4 v21 M15
def f_X12_year (x1 : Int32) (x2 : Int32) (x3 : Int32) (M : Mem) : Option (Int32 × Mem) :=
  (f_X12_isStreet x1 M).bind fun v2 =>
  if v2 = 0 then
    some ((-1 : Int32), M)
  else
    (f_X12_in x2 (0 : Int32) (72 : Int32)).bind fun v5 =>
    if v5 = 0 then
      some ((-1 : Int32), M)
    else
      (f_X12_in x3 (1 : Int32) (20 : Int32)).bind fun v8 =>
      if v8 = 0 then
        some ((-1 : Int32), M)
      else
        (f_X12_year_L36 FU x1 x2 x3 (0 : Int32) (0 : Int32) M).bind fun t22 =>
        some (t22.1, t22.2)
set_option maxHeartbeats 1000000 in
set_option maxRecDepth 20000 in
theorem t_X12_year_L36 {g : GG} {d : Nat} {P : PT} {res : Option RS} (hd : 6 ≤ d)  (hP : IsM g iX12_year d res P) : ∀ (fu : Nat) (l1 : Int32) (l2 : Int32) (l3 : Int32) (l4 : Int32) (l5 : Int32) (M : Mem) (t : Int32 × Mem), f_X12_year_L36 fu l1 l2 l3 l4 l5 M = some t → P 79 [none, none, none, none, some (.int t.1), none] [] LAY t.2 → P 36 [some (.ref 67), some (.int l1), some (.int l2), some (.int l3), some (.int l4), some (.int l5)] [] LAY M := by
  have hd1 : 1 ≤ d := by omega
  intro fu
  induction fu with
  | zero => intro l1 l2 l3 l4 l5 M t hf; simp [f_X12_year_L36] at hf
  | succ fu ih =>
    intro l1 l2 l3 l4 l5 M t hf hx
    rw [f_X12_year_L36] at hf
    refine x_iload hP dX12_year_36 rfl ?_
    refine x_iload_n hP dX12_year_38 rfl ?_
    refine x_icmp_ge hP dX12_year_39 (tgt := 79) (by decide) (fun c10 => ?_) (fun c10 => ?_)
    · replace hf := p_t c10 hf
      refine x_drop hP [none, none, none, none, some (.int l4), none] (And.intro rfl trivial) ?_
      cases hf
      exact hx
    · replace hf := p_f c10 hf
      refine x_aload_n hP dX12_year_42 rfl ?_
      obtain ⟨M12, hc11, hf⟩ := b_bd hf
      refine y_cvv hP oX12_copies lX12_347 [] [] rfl rfl rfl lay67 dX12_year_43 (t_X12_copies (d := d - 1) (by omega) hc11) (by omega) ?_
      refine x_aload_n hP dX12_year_46 rfl ?_
      refine x_dup hP dX12_year_47 rfl ?_
      refine x_getI hP fX12_341 lay67 dX12_year_48 ?_
      refine x_iload hP dX12_year_51 rfl ?_
      refine x_iadd hP dX12_year_53 ?_
      obtain ⟨M13, hM13, hf⟩ := b_lt hf
      refine y_putI hP fX12_341 lay67 hM13 dX12_year_54 ?_
      refine x_aload_n hP dX12_year_57 rfl ?_
      refine x_iload_n hP dX12_year_58 rfl ?_
      obtain ⟨M15, hc14, hf⟩ := b_bd hf
      refine y_cvv hP oX12_goes lX12_426 [.int l2] [] rfl rfl rfl lay67 dX12_year_59 (t_X12_goes (d := d - 1) (by omega) hc14) (by omega) ?_
      refine x_aload_n hP dX12_year_62 rfl ?_
      refine x_iload_n hP dX12_year_63 rfl ?_
      obtain ⟨v17, hc16, hf⟩ := b_bd hf
      refine y_cvi hP oX12_needsOf lX12_408 [.int l1] [] rfl rfl rfl lay67 dX12_year_64 (t_X12_needsOf (d := d - 1) (by omega) hc16) (by omega) ?_
      refine x_if_ne hP dX12_year_67 (tgt := 73) (by decide) (fun c18 => ?_) (fun c18 => ?_)
      · replace hf := p_f c18 hf
        obtain ⟨v21, hv21, hf⟩ := b_lt hf
        refine x_iinc hP (v := v21) (ls2 := [some (.ref 67), some (.int l1), some (.int l2), some (.int l3), some (.int l4), some (.int v21)]) dX12_year_73 rfl (by rw [hv21]; rfl) rfl rfl ?_
        refine x_goto hP dX12_year_76 (tgt := 36) (by decide) ?_
        refine x_drop hP [some (.ref 67), some (.int l1), some (.int l2), some (.int l3), some (.int l4), some (.int v21)] (And.intro rfl (And.intro rfl (And.intro rfl (And.intro rfl (And.intro rfl (And.intro rfl trivial)))))) ?_
        exact ih _ _ _ _ _ _ _ hf hx
      · replace hf := p_t c18 hf
        obtain ⟨v19, hv19, hf⟩ := b_lt hf
        refine x_iinc hP (v := v19) (ls2 := [some (.ref 67), some (.int l1), some (.int l2), some (.int l3), some (.int v19), some (.int l5)]) dX12_year_70 rfl (by rw [hv19]; rfl) rfl rfl ?_
        obtain ⟨v20, hv20, hf⟩ := b_lt hf
        refine x_iinc hP (v := v20) (ls2 := [some (.ref 67), some (.int l1), some (.int l2), some (.int l3), some (.int v19), some (.int v20)]) dX12_year_73 rfl (by rw [hv20]; rfl) rfl rfl ?_
        refine x_goto hP dX12_year_76 (tgt := 36) (by decide) ?_
        refine x_drop hP [some (.ref 67), some (.int l1), some (.int l2), some (.int l3), some (.int v19), some (.int v20)] (And.intro rfl (And.intro rfl (And.intro rfl (And.intro rfl (And.intro rfl (And.intro rfl trivial)))))) ?_
        exact ih _ _ _ _ _ _ _ hf hx
set_option maxHeartbeats 1000000 in
set_option maxRecDepth 20000 in
theorem t_X12_year {g : GG} {d : Nat} (hd : 6 ≤ d) {x1 : Int32} {x2 : Int32} {x3 : Int32} {M : Mem} {r : Int32} {M' : Mem} (hf : f_X12_year x1 x2 x3 M = some (r, M')) : ExM g d iX12_year [.ref 67, .int x1, .int x2, .int x3] LAY M (some (.int r), LAY, M') := by
  have hd1 : 1 ≤ d := by omega
  refine ExM.main pnX12 rfl (ls := [some (.ref 67), some (.int x1), some (.int x2), some (.int x3), none, none]) rfl ?_
  intro P hP
  rw [f_X12_year] at hf
  refine x_aload_n hP dX12_year_0 rfl ?_
  refine x_iload_n hP dX12_year_1 rfl ?_
  obtain ⟨v2, hc1, hf⟩ := b_bd hf
  refine y_cvi hP oX12_isStreet lX12_405 [.int x1] [] rfl rfl rfl lay67 dX12_year_2 (t_X12_isStreet (d := d - 1) (by omega) hc1) (by omega) ?_
  refine x_if_eq hP dX12_year_5 (tgt := 28) (by decide) (fun c3 => ?_) (fun c3 => ?_)
  · replace hf := p_t c3 hf
    refine x_iconst hP dX12_year_28 (v := (-1)) rfl ?_
    cases hf
    exact x_iret hP rfl dX12_year_29
  · replace hf := p_f c3 hf
    refine x_iload_n hP dX12_year_8 rfl ?_
    refine x_iconst hP dX12_year_9 (v := 0) rfl ?_
    refine x_bipush hP dX12_year_10 (v := 72) rfl ?_
    obtain ⟨v5, hc4, hf⟩ := b_bd hf
    refine y_csi hP oX12_in lX12_334 [.int x2, .int (0 : Int32), .int (72 : Int32)] [] rfl rfl rfl dX12_year_12 (t_X12_in (d := d - 1) (by omega) hc4) (by omega) ?_
    refine x_if_eq hP dX12_year_15 (tgt := 28) (by decide) (fun c6 => ?_) (fun c6 => ?_)
    · replace hf := p_t c6 hf
      refine x_iconst hP dX12_year_28 (v := (-1)) rfl ?_
      cases hf
      exact x_iret hP rfl dX12_year_29
    · replace hf := p_f c6 hf
      refine x_iload_n hP dX12_year_18 rfl ?_
      refine x_iconst hP dX12_year_19 (v := 1) rfl ?_
      refine x_bipush hP dX12_year_20 (v := 20) rfl ?_
      obtain ⟨v8, hc7, hf⟩ := b_bd hf
      refine y_csi hP oX12_in lX12_334 [.int x3, .int (1 : Int32), .int (20 : Int32)] [] rfl rfl rfl dX12_year_22 (t_X12_in (d := d - 1) (by omega) hc7) (by omega) ?_
      refine x_if_ne hP dX12_year_25 (tgt := 30) (by decide) (fun c9 => ?_) (fun c9 => ?_)
      · replace hf := p_f c9 hf
        refine x_iconst hP dX12_year_30 (v := 0) rfl ?_
        refine x_istore hP (ls2 := [some (.ref 67), some (.int x1), some (.int x2), some (.int x3), some (.int (0 : Int32)), none]) dX12_year_31 rfl rfl ?_
        refine x_iconst hP dX12_year_33 (v := 0) rfl ?_
        refine x_istore hP (ls2 := [some (.ref 67), some (.int x1), some (.int x2), some (.int x3), some (.int (0 : Int32)), some (.int (0 : Int32))]) dX12_year_34 rfl rfl ?_
        refine x_drop hP [some (.ref 67), some (.int x1), some (.int x2), some (.int x3), some (.int (0 : Int32)), some (.int (0 : Int32))] (And.intro rfl (And.intro rfl (And.intro rfl (And.intro rfl (And.intro rfl (And.intro rfl trivial)))))) ?_
        obtain ⟨t22, hl23, hf⟩ := b_bd hf
        refine t_X12_year_L36 hd hP _ _ _ _ _ _ _ _ hl23 ?_
        refine x_iload hP dX12_year_79 rfl ?_
        cases hf
        exact x_iret hP rfl dX12_year_81
      · replace hf := p_t c9 hf
        refine x_iconst hP dX12_year_28 (v := (-1)) rfl ?_
        cases hf
        exact x_iret hP rfl dX12_year_29
def f_X12_tell (x1 : Int32) (x2 : Int32) (x3 : Int32) (M : Mem) : Option (Int32 × Mem) :=
  if M.1 67 66 = (20 : Int32) then
    some ((-1 : Int32), M)
  else
    (f_X12_isOut x1 M).bind fun v3 =>
    if v3 = 0 then
      some ((-1 : Int32), M)
    else
      (f_X12_in x2 (0 : Int32) (999 : Int32)).bind fun v6 =>
      if v6 = 0 then
        some ((-1 : Int32), M)
      else
        (pg M 113 20 (M.1 67 66) x1).bind fun M8 =>
        (pg M8 114 20 (M8.1 67 66) x2).bind fun M9 =>
        (pz M9 115 20 (M9.1 67 66) x3).bind fun M10 =>
        lt (sI M10 67 66 ((M10.1 67 66) + (1 : Int32))) fun M11 =>
        some ((M11.1 67 66) - (1 : Int32), M11)
set_option maxHeartbeats 1000000 in
set_option maxRecDepth 20000 in
theorem t_X12_tell {g : GG} {d : Nat} (hd : 4 ≤ d) {x1 : Int32} {x2 : Int32} {x3 : Int32} {M : Mem} {r : Int32} {M' : Mem} (hf : f_X12_tell x1 x2 x3 M = some (r, M')) : ExM g d iX12_tell [.ref 67, .int x1, .int x2, .int x3] LAY M (some (.int r), LAY, M') := by
  have hd1 : 1 ≤ d := by omega
  refine ExM.main pnX12 rfl (ls := [some (.ref 67), some (.int x1), some (.int x2), some (.int x3)]) rfl ?_
  intro P hP
  rw [f_X12_tell] at hf
  refine x_aload_n hP dX12_tell_0 rfl ?_
  refine x_getI hP fX12_272 lay67 dX12_tell_1 ?_
  refine x_bipush hP dX12_tell_4 (v := 20) rfl ?_
  refine x_icmp_eq hP dX12_tell_6 (tgt := 28) (by decide) (fun c1 => ?_) (fun c1 => ?_)
  · replace hf := p_t c1 hf
    refine x_iconst hP dX12_tell_28 (v := (-1)) rfl ?_
    cases hf
    exact x_iret hP rfl dX12_tell_29
  · replace hf := p_f c1 hf
    refine x_aload_n hP dX12_tell_9 rfl ?_
    refine x_iload_n hP dX12_tell_10 rfl ?_
    obtain ⟨v3, hc2, hf⟩ := b_bd hf
    refine y_cvi hP oX12_isOut lX12_420 [.int x1] [] rfl rfl rfl lay67 dX12_tell_11 (t_X12_isOut (d := d - 1) (by omega) hc2) (by omega) ?_
    refine x_if_eq hP dX12_tell_14 (tgt := 28) (by decide) (fun c4 => ?_) (fun c4 => ?_)
    · replace hf := p_t c4 hf
      refine x_iconst hP dX12_tell_28 (v := (-1)) rfl ?_
      cases hf
      exact x_iret hP rfl dX12_tell_29
    · replace hf := p_f c4 hf
      refine x_iload_n hP dX12_tell_17 rfl ?_
      refine x_iconst hP dX12_tell_18 (v := 0) rfl ?_
      refine x_sipush hP dX12_tell_19 (v := 999) rfl ?_
      obtain ⟨v6, hc5, hf⟩ := b_bd hf
      refine y_csi hP oX12_in lX12_334 [.int x2, .int (0 : Int32), .int (999 : Int32)] [] rfl rfl rfl dX12_tell_22 (t_X12_in (d := d - 1) (by omega) hc5) (by omega) ?_
      refine x_if_ne hP dX12_tell_25 (tgt := 30) (by decide) (fun c7 => ?_) (fun c7 => ?_)
      · replace hf := p_f c7 hf
        refine x_aload_n hP dX12_tell_30 rfl ?_
        refine x_getA hP fX12_155 lay67 (r := 113) rfl dX12_tell_31 ?_
        refine x_aload_n hP dX12_tell_34 rfl ?_
        refine x_getI hP fX12_272 lay67 dX12_tell_35 ?_
        refine x_iload_n hP dX12_tell_38 rfl ?_
        obtain ⟨M8, hiM8, hM8, hf⟩ := b_pg hf
        refine y_ast hP lay113 hiM8 hM8 dX12_tell_39 ?_
        refine x_aload_n hP dX12_tell_40 rfl ?_
        refine x_getA hP fX12_158 lay67 (r := 114) rfl dX12_tell_41 ?_
        refine x_aload_n hP dX12_tell_44 rfl ?_
        refine x_getI hP fX12_272 lay67 dX12_tell_45 ?_
        refine x_iload_n hP dX12_tell_48 rfl ?_
        obtain ⟨M9, hiM9, hM9, hf⟩ := b_pg hf
        refine y_ast hP lay114 hiM9 hM9 dX12_tell_49 ?_
        refine x_aload_n hP dX12_tell_50 rfl ?_
        refine x_getA hP fX12_161 lay67 (r := 115) rfl dX12_tell_51 ?_
        refine x_aload_n hP dX12_tell_54 rfl ?_
        refine x_getI hP fX12_272 lay67 dX12_tell_55 ?_
        refine x_iload_n hP dX12_tell_58 rfl ?_
        obtain ⟨M10, hiM10, hM10, hf⟩ := b_pz hf
        refine y_zst hP lay115 hiM10 hM10 dX12_tell_59 ?_
        refine x_aload_n hP dX12_tell_60 rfl ?_
        refine x_dup hP dX12_tell_61 rfl ?_
        refine x_getI hP fX12_272 lay67 dX12_tell_62 ?_
        refine x_iconst hP dX12_tell_65 (v := 1) rfl ?_
        refine x_iadd hP dX12_tell_66 ?_
        obtain ⟨M11, hM11, hf⟩ := b_lt hf
        refine y_putI hP fX12_272 lay67 hM11 dX12_tell_67 ?_
        refine x_aload_n hP dX12_tell_70 rfl ?_
        refine x_getI hP fX12_272 lay67 dX12_tell_71 ?_
        refine x_iconst hP dX12_tell_74 (v := 1) rfl ?_
        refine x_isub hP dX12_tell_75 ?_
        cases hf
        exact x_iret hP rfl dX12_tell_76
      · replace hf := p_t c7 hf
        refine x_iconst hP dX12_tell_28 (v := (-1)) rfl ?_
        cases hf
        exact x_iret hP rfl dX12_tell_29
def f_X12_forget (M : Mem) : Option (Int32 × Mem) :=
  lt (M.1 67 66 : Int32) fun v1 =>
  lt (sI M 67 66 (0 : Int32)) fun M2 =>
  some (v1, M2)
set_option maxHeartbeats 1000000 in
set_option maxRecDepth 20000 in
theorem t_X12_forget {g : GG} {d : Nat} (hd : 1 ≤ d) {M : Mem} {r : Int32} {M' : Mem} (hf : f_X12_forget M = some (r, M')) : ExM g d iX12_forget [.ref 67] LAY M (some (.int r), LAY, M') := by
  have hd1 : 1 ≤ d := by omega
  refine ExM.main pnX12 rfl (ls := [some (.ref 67), none]) rfl ?_
  intro P hP
  rw [f_X12_forget] at hf
  refine x_aload_n hP dX12_forget_0 rfl ?_
  refine x_getI hP fX12_272 lay67 dX12_forget_1 ?_
  obtain ⟨v1, hv1, hf⟩ := b_lt hf
  refine y_nmI hv1 ?_
  refine x_istore_n hP (ls2 := [some (.ref 67), some (.int v1)]) dX12_forget_4 rfl rfl rfl ?_
  refine x_aload_n hP dX12_forget_5 rfl ?_
  refine x_iconst hP dX12_forget_6 (v := 0) rfl ?_
  obtain ⟨M2, hM2, hf⟩ := b_lt hf
  refine y_putI hP fX12_272 lay67 hM2 dX12_forget_7 ?_
  refine x_iload_n hP dX12_forget_10 rfl ?_
  cases hf
  exact x_iret hP rfl dX12_forget_11
def f_X12_wouldGlow (x1 : Int32) (x2 : Int32) (M : Mem) : Option (Int32 × Mem) :=
  (ag M 104 48 ((12 : Int32) + x1)).bind fun v1 =>
  if v1 = (1 : Int32) then
    some ((0 : Int32), M)
  else
    (f_X12_glowBy x1 x2 M).bind fun t4 =>
    some (t4.1, t4.2)
set_option maxHeartbeats 1000000 in
set_option maxRecDepth 20000 in
theorem t_X12_wouldGlow {g : GG} {d : Nat} (hd : 5 ≤ d) {x1 : Int32} {x2 : Int32} {M : Mem} {r : Int32} {M' : Mem} (hf : f_X12_wouldGlow x1 x2 M = some (r, M')) : ExM g d iX12_wouldGlow [.ref 67, .int x1, .int x2] LAY M (some (.int r), LAY, M') := by
  have hd1 : 1 ≤ d := by omega
  refine ExM.main pnX12 rfl (ls := [some (.ref 67), some (.int x1), some (.int x2)]) rfl ?_
  intro P hP
  rw [f_X12_wouldGlow] at hf
  refine x_aload_n hP dX12_wouldGlow_0 rfl ?_
  refine x_getA hP fX12_128 lay67 (r := 104) rfl dX12_wouldGlow_1 ?_
  refine x_bipush hP dX12_wouldGlow_4 (v := 12) rfl ?_
  refine x_iload_n hP dX12_wouldGlow_6 rfl ?_
  refine x_iadd hP dX12_wouldGlow_7 ?_
  obtain ⟨v1, hiv1, hv1, hf⟩ := b_ag hf
  refine y_ald hP lay104 hiv1 hv1 dX12_wouldGlow_8 ?_
  refine x_iconst hP dX12_wouldGlow_9 (v := 1) rfl ?_
  refine x_icmp_ne hP dX12_wouldGlow_10 (tgt := 17) (by decide) (fun c2 => ?_) (fun c2 => ?_)
  · replace hf := p_f c2 hf
    refine x_aload_n hP dX12_wouldGlow_17 rfl ?_
    refine x_iload_n hP dX12_wouldGlow_18 rfl ?_
    refine x_iload_n hP dX12_wouldGlow_19 rfl ?_
    obtain ⟨t4, hc3, hf⟩ := b_bd hf
    refine y_cvi hP oX12_glowBy lX12_441 [.int x1, .int x2] [] rfl rfl rfl lay67 dX12_wouldGlow_20 (t_X12_glowBy (d := d - 1) (by omega) hc3) (by omega) ?_
    cases hf
    exact x_iret hP rfl dX12_wouldGlow_23
  · replace hf := p_t c2 hf
    refine x_iconst hP dX12_wouldGlow_13 (v := 0) rfl ?_
    refine x_goto hP dX12_wouldGlow_14 (tgt := 23) (by decide) ?_
    cases hf
    exact x_iret hP rfl dX12_wouldGlow_23
def f_X12_wordBits_L27 : Nat → Int32 → Int32 → Int32 → Int32 → Int32 → Mem → Option (Int32 × Mem)
  | 0, _, _, _, _, _, _ => none
  | fu + 1, l1, l2, l3, l4, l5, M =>
    if l1 ≤ l5 then
      some (l4, M)
    else
      (ag M 113 20 l5).bind fun v6 =>
      (f_X12_wouldGlow v6 l3 M).bind fun t8 =>
      (ag t8.2 114 20 l5).bind fun v9 =>
      lt (
        if t8.1 < v9 then
          (0 : Int32)
        else
          (1 : Int32)
       : Int32) fun t10 =>
      (ag t8.2 115 20 l5).bind fun v12 =>
      if t10 = v12 then
        lt (l5 + 1 : Int32) fun v14 =>
        f_X12_wordBits_L27 fu l1 l2 l3 l4 v14 t8.2
      else
        lt (l5 + 1 : Int32) fun v15 =>
        f_X12_wordBits_L27 fu l1 l2 l3 (0 : Int32) v15 t8.2
def f_X12_wordBits_L8 : Nat → Int32 → Int32 → Int32 → Mem → Option (Int32 × Mem)
  | 0, _, _, _, _ => none
  | fu + 1, l1, l2, l3, M =>
    (ag M 86 2 (M.1 67 18)).bind fun v3 =>
    if v3 ≤ l3 then
      some (l2, M)
    else
      (f_X12_wordBits_L27 FU l1 l2 l3 (1 : Int32) (0 : Int32) M).bind fun t16 =>
      if t16.1 = 0 then
        lt (l3 + 1 : Int32) fun v19 =>
        f_X12_wordBits_L8 fu l1 l2 v19 t16.2
      else
        lt (l2 ||| ((1 : Int32) <<< (l3 &&& 31)) : Int32) fun v20 =>
        lt (l3 + 1 : Int32) fun v21 =>
        f_X12_wordBits_L8 fu l1 v20 v21 t16.2
def f_X12_wordBits (x1 : Int32) (M : Mem) : Option (Int32 × Mem) :=
  (f_X12_copies M).bind fun M2 =>
  (f_X12_wordBits_L8 FU x1 (0 : Int32) (0 : Int32) M2).bind fun t22 =>
  some (t22.1, t22.2)
set_option maxHeartbeats 1000000 in
set_option maxRecDepth 20000 in
theorem t_X12_wordBits_L27 {g : GG} {d : Nat} {P : PT} {res : Option RS} (hd : 6 ≤ d)  (hP : IsM g iX12_wordBits d res P) : ∀ (fu : Nat) (l1 : Int32) (l2 : Int32) (l3 : Int32) (l4 : Int32) (l5 : Int32) (M : Mem) (t : Int32 × Mem), f_X12_wordBits_L27 fu l1 l2 l3 l4 l5 M = some t → P 79 [some (.ref 67), some (.int l1), some (.int l2), some (.int l3), some (.int t.1), none] [] LAY t.2 → P 27 [some (.ref 67), some (.int l1), some (.int l2), some (.int l3), some (.int l4), some (.int l5)] [] LAY M := by
  have hd1 : 1 ≤ d := by omega
  intro fu
  induction fu with
  | zero => intro l1 l2 l3 l4 l5 M t hf; simp [f_X12_wordBits_L27] at hf
  | succ fu ih =>
    intro l1 l2 l3 l4 l5 M t hf hx
    rw [f_X12_wordBits_L27] at hf
    refine x_iload hP dX12_wordBits_27 rfl ?_
    refine x_iload_n hP dX12_wordBits_29 rfl ?_
    refine x_icmp_ge hP dX12_wordBits_30 (tgt := 79) (by decide) (fun c5 => ?_) (fun c5 => ?_)
    · replace hf := p_t c5 hf
      refine x_drop hP [some (.ref 67), some (.int l1), some (.int l2), some (.int l3), some (.int l4), none] (And.intro rfl (And.intro rfl (And.intro rfl (And.intro rfl (And.intro rfl trivial))))) ?_
      cases hf
      exact hx
    · replace hf := p_f c5 hf
      refine x_aload_n hP dX12_wordBits_33 rfl ?_
      refine x_aload_n hP dX12_wordBits_34 rfl ?_
      refine x_getA hP fX12_155 lay67 (r := 113) rfl dX12_wordBits_35 ?_
      refine x_iload hP dX12_wordBits_38 rfl ?_
      obtain ⟨v6, hiv6, hv6, hf⟩ := b_ag hf
      refine y_ald hP lay113 hiv6 hv6 dX12_wordBits_40 ?_
      refine x_iload_n hP dX12_wordBits_41 rfl ?_
      obtain ⟨t8, hc7, hf⟩ := b_bd hf
      refine y_cvi hP oX12_wouldGlow lX12_465 [.int v6, .int l3] [] rfl rfl rfl lay67 dX12_wordBits_42 (t_X12_wouldGlow (d := d - 1) (by omega) hc7) (by omega) ?_
      refine x_aload_n hP dX12_wordBits_45 rfl ?_
      refine x_getA hP fX12_158 lay67 (r := 114) rfl dX12_wordBits_46 ?_
      refine x_iload hP dX12_wordBits_49 rfl ?_
      obtain ⟨v9, hiv9, hv9, hf⟩ := b_ag hf
      refine y_ald hP lay114 hiv9 hv9 dX12_wordBits_51 ?_
      obtain ⟨t10, het10, hf⟩ := b_lt hf
      have hj10 : P 60 [some (.ref 67), some (.int l1), some (.int l2), some (.int l3), some (.int l4), some (.int l5)] [.int t10] LAY t8.2 := by
        refine x_aload_n hP dX12_wordBits_60 rfl ?_
        refine x_getA hP fX12_161 lay67 (r := 115) rfl dX12_wordBits_61 ?_
        refine x_iload hP dX12_wordBits_64 rfl ?_
        obtain ⟨v12, hiv12, hv12, hf⟩ := b_ag hf
        refine y_zld hP lay115 hiv12 hv12 dX12_wordBits_66 ?_
        refine x_icmp_eq hP dX12_wordBits_67 (tgt := 73) (by decide) (fun c13 => ?_) (fun c13 => ?_)
        · replace hf := p_t c13 hf
          obtain ⟨v14, hv14, hf⟩ := b_lt hf
          refine x_iinc hP (v := v14) (ls2 := [some (.ref 67), some (.int l1), some (.int l2), some (.int l3), some (.int l4), some (.int v14)]) dX12_wordBits_73 rfl (by rw [hv14]; rfl) rfl rfl ?_
          refine x_goto hP dX12_wordBits_76 (tgt := 27) (by decide) ?_
          refine x_drop hP [some (.ref 67), some (.int l1), some (.int l2), some (.int l3), some (.int l4), some (.int v14)] (And.intro rfl (And.intro rfl (And.intro rfl (And.intro rfl (And.intro rfl (And.intro rfl trivial)))))) ?_
          exact ih _ _ _ _ _ _ _ hf hx
        · replace hf := p_f c13 hf
          refine x_iconst hP dX12_wordBits_70 (v := 0) rfl ?_
          refine x_istore hP (ls2 := [some (.ref 67), some (.int l1), some (.int l2), some (.int l3), some (.int (0 : Int32)), some (.int l5)]) dX12_wordBits_71 rfl rfl ?_
          obtain ⟨v15, hv15, hf⟩ := b_lt hf
          refine x_iinc hP (v := v15) (ls2 := [some (.ref 67), some (.int l1), some (.int l2), some (.int l3), some (.int (0 : Int32)), some (.int v15)]) dX12_wordBits_73 rfl (by rw [hv15]; rfl) rfl rfl ?_
          refine x_goto hP dX12_wordBits_76 (tgt := 27) (by decide) ?_
          refine x_drop hP [some (.ref 67), some (.int l1), some (.int l2), some (.int l3), some (.int (0 : Int32)), some (.int v15)] (And.intro rfl (And.intro rfl (And.intro rfl (And.intro rfl (And.intro rfl (And.intro rfl trivial)))))) ?_
          exact ih _ _ _ _ _ _ _ hf hx
      clear hf
      have hf := het10
      clear het10
      refine x_icmp_lt hP dX12_wordBits_52 (tgt := 59) (by decide) (fun c11 => ?_) (fun c11 => ?_)
      · replace hf := e_t c11 hf
        refine x_iconst hP dX12_wordBits_59 (v := 0) rfl ?_
        refine x_drop hP [some (.ref 67), some (.int l1), some (.int l2), some (.int l3), some (.int l4), some (.int l5)] (And.intro rfl (And.intro rfl (And.intro rfl (And.intro rfl (And.intro rfl (And.intro rfl trivial)))))) ?_
        subst hf
        exact hj10
      · replace hf := e_f c11 hf
        refine x_iconst hP dX12_wordBits_55 (v := 1) rfl ?_
        refine x_goto hP dX12_wordBits_56 (tgt := 60) (by decide) ?_
        refine x_drop hP [some (.ref 67), some (.int l1), some (.int l2), some (.int l3), some (.int l4), some (.int l5)] (And.intro rfl (And.intro rfl (And.intro rfl (And.intro rfl (And.intro rfl (And.intro rfl trivial)))))) ?_
        subst hf
        exact hj10
set_option maxHeartbeats 1000000 in
set_option maxRecDepth 20000 in
theorem t_X12_wordBits_L8 {g : GG} {d : Nat} {P : PT} {res : Option RS} (hd : 6 ≤ d)  (hP : IsM g iX12_wordBits d res P) : ∀ (fu : Nat) (l1 : Int32) (l2 : Int32) (l3 : Int32) (M : Mem) (t : Int32 × Mem), f_X12_wordBits_L8 fu l1 l2 l3 M = some t → P 96 [none, none, some (.int t.1), none, none, none] [] LAY t.2 → P 8 [some (.ref 67), some (.int l1), some (.int l2), some (.int l3), none, none] [] LAY M := by
  have hd1 : 1 ≤ d := by omega
  intro fu
  induction fu with
  | zero => intro l1 l2 l3 M t hf; simp [f_X12_wordBits_L8] at hf
  | succ fu ih =>
    intro l1 l2 l3 M t hf hx
    rw [f_X12_wordBits_L8] at hf
    refine x_iload_n hP dX12_wordBits_8 rfl ?_
    refine x_aload_n hP dX12_wordBits_9 rfl ?_
    refine x_getA hP fX12_73 lay67 (r := 86) rfl dX12_wordBits_10 ?_
    refine x_aload_n hP dX12_wordBits_13 rfl ?_
    refine x_getI hP fX12_251 lay67 dX12_wordBits_14 ?_
    obtain ⟨v3, hiv3, hv3, hf⟩ := b_ag hf
    refine y_ald hP lay86 hiv3 hv3 dX12_wordBits_17 ?_
    refine x_icmp_ge hP dX12_wordBits_18 (tgt := 96) (by decide) (fun c4 => ?_) (fun c4 => ?_)
    · replace hf := p_t c4 hf
      refine x_drop hP [none, none, some (.int l2), none, none, none] (And.intro rfl trivial) ?_
      cases hf
      exact hx
    · replace hf := p_f c4 hf
      refine x_iconst hP dX12_wordBits_21 (v := 1) rfl ?_
      refine x_istore hP (ls2 := [some (.ref 67), some (.int l1), some (.int l2), some (.int l3), some (.int (1 : Int32)), none]) dX12_wordBits_22 rfl rfl ?_
      refine x_iconst hP dX12_wordBits_24 (v := 0) rfl ?_
      refine x_istore hP (ls2 := [some (.ref 67), some (.int l1), some (.int l2), some (.int l3), some (.int (1 : Int32)), some (.int (0 : Int32))]) dX12_wordBits_25 rfl rfl ?_
      refine x_drop hP [some (.ref 67), some (.int l1), some (.int l2), some (.int l3), some (.int (1 : Int32)), some (.int (0 : Int32))] (And.intro rfl (And.intro rfl (And.intro rfl (And.intro rfl (And.intro rfl (And.intro rfl trivial)))))) ?_
      obtain ⟨t16, hl17, hf⟩ := b_bd hf
      refine t_X12_wordBits_L27 hd hP _ _ _ _ _ _ _ _ hl17 ?_
      refine x_iload hP dX12_wordBits_79 rfl ?_
      refine x_if_eq hP dX12_wordBits_81 (tgt := 90) (by decide) (fun c18 => ?_) (fun c18 => ?_)
      · replace hf := p_t c18 hf
        obtain ⟨v19, hv19, hf⟩ := b_lt hf
        refine x_iinc hP (v := v19) (ls2 := [some (.ref 67), some (.int l1), some (.int l2), some (.int v19), some (.int t16.1), none]) dX12_wordBits_90 rfl (by rw [hv19]; rfl) rfl rfl ?_
        refine x_goto hP dX12_wordBits_93 (tgt := 8) (by decide) ?_
        refine x_drop hP [some (.ref 67), some (.int l1), some (.int l2), some (.int v19), none, none] (And.intro rfl (And.intro rfl (And.intro rfl (And.intro rfl trivial)))) ?_
        exact ih _ _ _ _ _ hf hx
      · replace hf := p_f c18 hf
        refine x_iload_n hP dX12_wordBits_84 rfl ?_
        refine x_iconst hP dX12_wordBits_85 (v := 1) rfl ?_
        refine x_iload_n hP dX12_wordBits_86 rfl ?_
        refine x_ishl hP dX12_wordBits_87 ?_
        refine x_ior hP dX12_wordBits_88 ?_
        obtain ⟨v20, hv20, hf⟩ := b_lt hf
        refine y_nmI hv20 ?_
        refine x_istore_n hP (ls2 := [some (.ref 67), some (.int l1), some (.int v20), some (.int l3), some (.int t16.1), none]) dX12_wordBits_89 rfl rfl rfl ?_
        obtain ⟨v21, hv21, hf⟩ := b_lt hf
        refine x_iinc hP (v := v21) (ls2 := [some (.ref 67), some (.int l1), some (.int v20), some (.int v21), some (.int t16.1), none]) dX12_wordBits_90 rfl (by rw [hv21]; rfl) rfl rfl ?_
        refine x_goto hP dX12_wordBits_93 (tgt := 8) (by decide) ?_
        refine x_drop hP [some (.ref 67), some (.int l1), some (.int v20), some (.int v21), none, none] (And.intro rfl (And.intro rfl (And.intro rfl (And.intro rfl trivial)))) ?_
        exact ih _ _ _ _ _ hf hx
set_option maxHeartbeats 1000000 in
set_option maxRecDepth 20000 in
theorem t_X12_wordBits {g : GG} {d : Nat} (hd : 6 ≤ d) {x1 : Int32} {M : Mem} {r : Int32} {M' : Mem} (hf : f_X12_wordBits x1 M = some (r, M')) : ExM g d iX12_wordBits [.ref 67, .int x1] LAY M (some (.int r), LAY, M') := by
  have hd1 : 1 ≤ d := by omega
  refine ExM.main pnX12 rfl (ls := [some (.ref 67), some (.int x1), none, none, none, none]) rfl ?_
  intro P hP
  rw [f_X12_wordBits] at hf
  refine x_aload_n hP dX12_wordBits_0 rfl ?_
  obtain ⟨M2, hc1, hf⟩ := b_bd hf
  refine y_cvv hP oX12_copies lX12_347 [] [] rfl rfl rfl lay67 dX12_wordBits_1 (t_X12_copies (d := d - 1) (by omega) hc1) (by omega) ?_
  refine x_iconst hP dX12_wordBits_4 (v := 0) rfl ?_
  refine x_istore_n hP (ls2 := [some (.ref 67), some (.int x1), some (.int (0 : Int32)), none, none, none]) dX12_wordBits_5 rfl rfl rfl ?_
  refine x_iconst hP dX12_wordBits_6 (v := 0) rfl ?_
  refine x_istore_n hP (ls2 := [some (.ref 67), some (.int x1), some (.int (0 : Int32)), some (.int (0 : Int32)), none, none]) dX12_wordBits_7 rfl rfl rfl ?_
  refine x_drop hP [some (.ref 67), some (.int x1), some (.int (0 : Int32)), some (.int (0 : Int32)), none, none] (And.intro rfl (And.intro rfl (And.intro rfl (And.intro rfl trivial)))) ?_
  obtain ⟨t22, hl23, hf⟩ := b_bd hf
  refine t_X12_wordBits_L8 hd hP _ _ _ _ _ _ hl23 ?_
  refine x_iload_n hP dX12_wordBits_96 rfl ?_
  cases hf
  exact x_iret hP rfl dX12_wordBits_97
def f_X12_words (x1 : Int32) (x2 : Int32) (M : Mem) : Option (Int32 × Mem) :=
  (f_X12_in x1 (0 : Int32) (M.1 67 66)).bind fun v2 =>
  if v2 = 0 then
    some ((-1 : Int32), M)
  else
    (f_X12_in x2 (0 : Int32) (1 : Int32)).bind fun v5 =>
    if v5 = 0 then
      some ((-1 : Int32), M)
    else
      (f_X12_wordBits x1 M).bind fun t8 =>
      if x2 = 0 then
        (f_X12_bits t8.1).bind fun v11 =>
        some (v11, t8.2)
      else
        some (t8.1, t8.2)
set_option maxHeartbeats 1000000 in
set_option maxRecDepth 20000 in
theorem t_X12_words {g : GG} {d : Nat} (hd : 7 ≤ d) {x1 : Int32} {x2 : Int32} {M : Mem} {r : Int32} {M' : Mem} (hf : f_X12_words x1 x2 M = some (r, M')) : ExM g d iX12_words [.ref 67, .int x1, .int x2] LAY M (some (.int r), LAY, M') := by
  have hd1 : 1 ≤ d := by omega
  refine ExM.main pnX12 rfl (ls := [some (.ref 67), some (.int x1), some (.int x2), none]) rfl ?_
  intro P hP
  rw [f_X12_words] at hf
  refine x_iload_n hP dX12_words_0 rfl ?_
  refine x_iconst hP dX12_words_1 (v := 0) rfl ?_
  refine x_aload_n hP dX12_words_2 rfl ?_
  refine x_getI hP fX12_272 lay67 dX12_words_3 ?_
  obtain ⟨v2, hc1, hf⟩ := b_bd hf
  refine y_csi hP oX12_in lX12_334 [.int x1, .int (0 : Int32), .int (M.1 67 66)] [] rfl rfl rfl dX12_words_6 (t_X12_in (d := d - 1) (by omega) hc1) (by omega) ?_
  refine x_if_eq hP dX12_words_9 (tgt := 21) (by decide) (fun c3 => ?_) (fun c3 => ?_)
  · replace hf := p_t c3 hf
    refine x_iconst hP dX12_words_21 (v := (-1)) rfl ?_
    cases hf
    exact x_iret hP rfl dX12_words_22
  · replace hf := p_f c3 hf
    refine x_iload_n hP dX12_words_12 rfl ?_
    refine x_iconst hP dX12_words_13 (v := 0) rfl ?_
    refine x_iconst hP dX12_words_14 (v := 1) rfl ?_
    obtain ⟨v5, hc4, hf⟩ := b_bd hf
    refine y_csi hP oX12_in lX12_334 [.int x2, .int (0 : Int32), .int (1 : Int32)] [] rfl rfl rfl dX12_words_15 (t_X12_in (d := d - 1) (by omega) hc4) (by omega) ?_
    refine x_if_ne hP dX12_words_18 (tgt := 23) (by decide) (fun c6 => ?_) (fun c6 => ?_)
    · replace hf := p_f c6 hf
      refine x_aload_n hP dX12_words_23 rfl ?_
      refine x_iload_n hP dX12_words_24 rfl ?_
      obtain ⟨t8, hc7, hf⟩ := b_bd hf
      refine y_cvi hP oX12_wordBits lX12_468 [.int x1] [] rfl rfl rfl lay67 dX12_words_25 (t_X12_wordBits (d := d - 1) (by omega) hc7) (by omega) ?_
      refine x_istore_n hP (ls2 := [some (.ref 67), some (.int x1), some (.int x2), some (.int t8.1)]) dX12_words_28 rfl rfl rfl ?_
      refine x_iload_n hP dX12_words_29 rfl ?_
      refine x_if_ne hP dX12_words_30 (tgt := 40) (by decide) (fun c9 => ?_) (fun c9 => ?_)
      · replace hf := p_f c9 hf
        refine x_iload_n hP dX12_words_40 rfl ?_
        cases hf
        exact x_iret hP rfl dX12_words_41
      · replace hf := p_t c9 hf
        refine x_iload_n hP dX12_words_33 rfl ?_
        obtain ⟨v11, hc10, hf⟩ := b_bd hf
        refine y_csi hP oX12_bits lX12_435 [.int t8.1] [] rfl rfl rfl dX12_words_34 (t_X12_bits (d := d - 1) (by omega) hc10) (by omega) ?_
        refine x_goto hP dX12_words_37 (tgt := 41) (by decide) ?_
        cases hf
        exact x_iret hP rfl dX12_words_41
    · replace hf := p_t c6 hf
      refine x_iconst hP dX12_words_21 (v := (-1)) rfl ?_
      cases hf
      exact x_iret hP rfl dX12_words_22
def f_X12_look_L77 : Nat → Int32 → Int32 → Int32 → Int32 → Int32 → Int32 → Int32 → Mem → Option (Int32 × Mem)
  | 0, _, _, _, _, _, _, _, _ => none
  | fu + 1, l2, l3, l4, l5, l6, l7, l8, M =>
    (ag M 86 2 (M.1 67 18)).bind fun v16 =>
    if v16 ≤ l8 then
      some (l7, M)
    else
      if (l3 >>> (l8 &&& 31)) &&& (1 : Int32) = (1 : Int32) then
        (f_X12_wouldGlow l6 l8 M).bind fun t20 =>
        if t20.1 < l2 then
          lt (l8 + 1 : Int32) fun v22 =>
          f_X12_look_L77 fu l2 l3 l4 l5 l6 l7 v22 t20.2
        else
          lt (l7 + 1 : Int32) fun v23 =>
          lt (l8 + 1 : Int32) fun v24 =>
          f_X12_look_L77 fu l2 l3 l4 l5 l6 v23 v24 t20.2
      else
        lt (l8 + 1 : Int32) fun v25 =>
        f_X12_look_L77 fu l2 l3 l4 l5 l6 l7 v25 M
def f_X12_look_L41 : Nat → Int32 → Int32 → Int32 → Int32 → Int32 → Mem → Option (Int32 × Mem)
  | 0, _, _, _, _, _, _ => none
  | fu + 1, l2, l3, l4, l5, l6, M =>
    (ag M 82 2 (M.1 67 18)).bind fun v9 =>
    if v9 ≤ l6 then
      some (l4, M)
    else
      if l3 = 0 then
        some (l4, M)
      else
        (f_X12_isOut l6 M).bind fun v13 =>
        if v13 = 0 then
          lt (l6 + 1 : Int32) fun v15 =>
          f_X12_look_L41 fu l2 l3 l4 l5 v15 M
        else
          (f_X12_look_L77 FU l2 l3 l4 l5 l6 (0 : Int32) (0 : Int32) M).bind fun t26 =>
          (f_X12_bits l3).bind fun v29 =>
          (
            if t26.1 ≤ v29 - t26.1 then
              (f_X12_bits l3).bind fun v33 =>
              some (v33 - t26.1)
            else
              some t26.1
          ).bind fun t30 =>
          if l4 < 0 then
            lt (l6 + 1 : Int32) fun v35 =>
            f_X12_look_L41 fu l2 l3 l6 t30 v35 t26.2
          else
            if t30 < l5 then
              lt (l6 + 1 : Int32) fun v37 =>
              f_X12_look_L41 fu l2 l3 l6 t30 v37 t26.2
            else
              lt (l6 + 1 : Int32) fun v38 =>
              f_X12_look_L41 fu l2 l3 l4 l5 v38 t26.2
def f_X12_look (x1 : Int32) (x2 : Int32) (M : Mem) : Option (Int32 × Mem) :=
  (f_X12_in x1 (0 : Int32) (M.1 67 66)).bind fun v2 =>
  if v2 = 0 then
    some ((-1 : Int32), M)
  else
    (f_X12_in x2 (0 : Int32) (999 : Int32)).bind fun v5 =>
    if v5 = 0 then
      some ((-1 : Int32), M)
    else
      (f_X12_wordBits x1 M).bind fun t8 =>
      (f_X12_look_L41 FU x2 t8.1 (-2 : Int32) (0 : Int32) (0 : Int32) t8.2).bind fun t39 =>
      some (t39.1, t39.2)
set_option maxHeartbeats 1000000 in
set_option maxRecDepth 20000 in
theorem t_X12_look_L77 {g : GG} {d : Nat} {P : PT} {res : Option RS} (hd : 7 ≤ d)  (hP : IsM g iX12_look d res P) : ∀ (fu : Nat) (l2 : Int32) (l3 : Int32) (l4 : Int32) (l5 : Int32) (l6 : Int32) (l7 : Int32) (l8 : Int32) (M : Mem) (t : Int32 × Mem), f_X12_look_L77 fu l2 l3 l4 l5 l6 l7 l8 M = some t → P 122 [some (.ref 67), none, some (.int l2), some (.int l3), some (.int l4), some (.int l5), some (.int l6), some (.int t.1), none] [] LAY t.2 → P 77 [some (.ref 67), none, some (.int l2), some (.int l3), some (.int l4), some (.int l5), some (.int l6), some (.int l7), some (.int l8)] [] LAY M := by
  have hd1 : 1 ≤ d := by omega
  intro fu
  induction fu with
  | zero => intro l2 l3 l4 l5 l6 l7 l8 M t hf; simp [f_X12_look_L77] at hf
  | succ fu ih =>
    intro l2 l3 l4 l5 l6 l7 l8 M t hf hx
    rw [f_X12_look_L77] at hf
    refine x_iload hP dX12_look_77 rfl ?_
    refine x_aload_n hP dX12_look_79 rfl ?_
    refine x_getA hP fX12_73 lay67 (r := 86) rfl dX12_look_80 ?_
    refine x_aload_n hP dX12_look_83 rfl ?_
    refine x_getI hP fX12_251 lay67 dX12_look_84 ?_
    obtain ⟨v16, hiv16, hv16, hf⟩ := b_ag hf
    refine y_ald hP lay86 hiv16 hv16 dX12_look_87 ?_
    refine x_icmp_ge hP dX12_look_88 (tgt := 122) (by decide) (fun c17 => ?_) (fun c17 => ?_)
    · replace hf := p_t c17 hf
      refine x_drop hP [some (.ref 67), none, some (.int l2), some (.int l3), some (.int l4), some (.int l5), some (.int l6), some (.int l7), none] (And.intro rfl (And.intro rfl (And.intro rfl (And.intro rfl (And.intro rfl (And.intro rfl (And.intro rfl trivial))))))) ?_
      cases hf
      exact hx
    · replace hf := p_f c17 hf
      refine x_iload_n hP dX12_look_91 rfl ?_
      refine x_iload hP dX12_look_92 rfl ?_
      refine x_ishr hP dX12_look_94 ?_
      refine x_iconst hP dX12_look_95 (v := 1) rfl ?_
      refine x_iand hP dX12_look_96 ?_
      refine x_iconst hP dX12_look_97 (v := 1) rfl ?_
      refine x_icmp_ne hP dX12_look_98 (tgt := 116) (by decide) (fun c18 => ?_) (fun c18 => ?_)
      · replace hf := p_f c18 hf
        obtain ⟨v25, hv25, hf⟩ := b_lt hf
        refine x_iinc hP (v := v25) (ls2 := [some (.ref 67), none, some (.int l2), some (.int l3), some (.int l4), some (.int l5), some (.int l6), some (.int l7), some (.int v25)]) dX12_look_116 rfl (by rw [hv25]; rfl) rfl rfl ?_
        refine x_goto hP dX12_look_119 (tgt := 77) (by decide) ?_
        refine x_drop hP [some (.ref 67), none, some (.int l2), some (.int l3), some (.int l4), some (.int l5), some (.int l6), some (.int l7), some (.int v25)] (And.intro rfl (And.intro rfl (And.intro rfl (And.intro rfl (And.intro rfl (And.intro rfl (And.intro rfl (And.intro rfl trivial)))))))) ?_
        exact ih _ _ _ _ _ _ _ _ _ hf hx
      · replace hf := p_t c18 hf
        refine x_aload_n hP dX12_look_101 rfl ?_
        refine x_iload hP dX12_look_102 rfl ?_
        refine x_iload hP dX12_look_104 rfl ?_
        obtain ⟨t20, hc19, hf⟩ := b_bd hf
        refine y_cvi hP oX12_wouldGlow lX12_465 [.int l6, .int l8] [] rfl rfl rfl lay67 dX12_look_106 (t_X12_wouldGlow (d := d - 1) (by omega) hc19) (by omega) ?_
        refine x_iload_n hP dX12_look_109 rfl ?_
        refine x_icmp_lt hP dX12_look_110 (tgt := 116) (by decide) (fun c21 => ?_) (fun c21 => ?_)
        · replace hf := p_t c21 hf
          obtain ⟨v22, hv22, hf⟩ := b_lt hf
          refine x_iinc hP (v := v22) (ls2 := [some (.ref 67), none, some (.int l2), some (.int l3), some (.int l4), some (.int l5), some (.int l6), some (.int l7), some (.int v22)]) dX12_look_116 rfl (by rw [hv22]; rfl) rfl rfl ?_
          refine x_goto hP dX12_look_119 (tgt := 77) (by decide) ?_
          refine x_drop hP [some (.ref 67), none, some (.int l2), some (.int l3), some (.int l4), some (.int l5), some (.int l6), some (.int l7), some (.int v22)] (And.intro rfl (And.intro rfl (And.intro rfl (And.intro rfl (And.intro rfl (And.intro rfl (And.intro rfl (And.intro rfl trivial)))))))) ?_
          exact ih _ _ _ _ _ _ _ _ _ hf hx
        · replace hf := p_f c21 hf
          obtain ⟨v23, hv23, hf⟩ := b_lt hf
          refine x_iinc hP (v := v23) (ls2 := [some (.ref 67), none, some (.int l2), some (.int l3), some (.int l4), some (.int l5), some (.int l6), some (.int v23), some (.int l8)]) dX12_look_113 rfl (by rw [hv23]; rfl) rfl rfl ?_
          obtain ⟨v24, hv24, hf⟩ := b_lt hf
          refine x_iinc hP (v := v24) (ls2 := [some (.ref 67), none, some (.int l2), some (.int l3), some (.int l4), some (.int l5), some (.int l6), some (.int v23), some (.int v24)]) dX12_look_116 rfl (by rw [hv24]; rfl) rfl rfl ?_
          refine x_goto hP dX12_look_119 (tgt := 77) (by decide) ?_
          refine x_drop hP [some (.ref 67), none, some (.int l2), some (.int l3), some (.int l4), some (.int l5), some (.int l6), some (.int v23), some (.int v24)] (And.intro rfl (And.intro rfl (And.intro rfl (And.intro rfl (And.intro rfl (And.intro rfl (And.intro rfl (And.intro rfl trivial)))))))) ?_
          exact ih _ _ _ _ _ _ _ _ _ hf hx
set_option maxHeartbeats 1000000 in
set_option maxRecDepth 20000 in
theorem t_X12_look_L41 {g : GG} {d : Nat} {P : PT} {res : Option RS} (hd : 7 ≤ d)  (hP : IsM g iX12_look d res P) : ∀ (fu : Nat) (l2 : Int32) (l3 : Int32) (l4 : Int32) (l5 : Int32) (l6 : Int32) (M : Mem) (t : Int32 × Mem), f_X12_look_L41 fu l2 l3 l4 l5 l6 M = some t → P 177 [none, none, none, none, some (.int t.1), none, none, none, none] [] LAY t.2 → P 41 [some (.ref 67), none, some (.int l2), some (.int l3), some (.int l4), some (.int l5), some (.int l6), none, none] [] LAY M := by
  have hd1 : 1 ≤ d := by omega
  intro fu
  induction fu with
  | zero => intro l2 l3 l4 l5 l6 M t hf; simp [f_X12_look_L41] at hf
  | succ fu ih =>
    intro l2 l3 l4 l5 l6 M t hf hx
    rw [f_X12_look_L41] at hf
    refine x_iload hP dX12_look_41 rfl ?_
    refine x_aload_n hP dX12_look_43 rfl ?_
    refine x_getA hP fX12_61 lay67 (r := 82) rfl dX12_look_44 ?_
    refine x_aload_n hP dX12_look_47 rfl ?_
    refine x_getI hP fX12_251 lay67 dX12_look_48 ?_
    obtain ⟨v9, hiv9, hv9, hf⟩ := b_ag hf
    refine y_ald hP lay82 hiv9 hv9 dX12_look_51 ?_
    refine x_icmp_ge hP dX12_look_52 (tgt := 177) (by decide) (fun c10 => ?_) (fun c10 => ?_)
    · replace hf := p_t c10 hf
      refine x_drop hP [none, none, none, none, some (.int l4), none, none, none, none] (And.intro rfl trivial) ?_
      cases hf
      exact hx
    · replace hf := p_f c10 hf
      refine x_iload_n hP dX12_look_55 rfl ?_
      refine x_if_eq hP dX12_look_56 (tgt := 177) (by decide) (fun c11 => ?_) (fun c11 => ?_)
      · replace hf := p_t c11 hf
        refine x_drop hP [none, none, none, none, some (.int l4), none, none, none, none] (And.intro rfl trivial) ?_
        cases hf
        exact hx
      · replace hf := p_f c11 hf
        refine x_aload_n hP dX12_look_59 rfl ?_
        refine x_iload hP dX12_look_60 rfl ?_
        obtain ⟨v13, hc12, hf⟩ := b_bd hf
        refine y_cvi hP oX12_isOut lX12_420 [.int l6] [] rfl rfl rfl lay67 dX12_look_62 (t_X12_isOut (d := d - 1) (by omega) hc12) (by omega) ?_
        refine x_if_ne hP dX12_look_65 (tgt := 71) (by decide) (fun c14 => ?_) (fun c14 => ?_)
        · replace hf := p_f c14 hf
          refine x_iconst hP dX12_look_71 (v := 0) rfl ?_
          refine x_istore hP (ls2 := [some (.ref 67), none, some (.int l2), some (.int l3), some (.int l4), some (.int l5), some (.int l6), some (.int (0 : Int32)), none]) dX12_look_72 rfl rfl ?_
          refine x_iconst hP dX12_look_74 (v := 0) rfl ?_
          refine x_istore hP (ls2 := [some (.ref 67), none, some (.int l2), some (.int l3), some (.int l4), some (.int l5), some (.int l6), some (.int (0 : Int32)), some (.int (0 : Int32))]) dX12_look_75 rfl rfl ?_
          refine x_drop hP [some (.ref 67), none, some (.int l2), some (.int l3), some (.int l4), some (.int l5), some (.int l6), some (.int (0 : Int32)), some (.int (0 : Int32))] (And.intro rfl (And.intro rfl (And.intro rfl (And.intro rfl (And.intro rfl (And.intro rfl (And.intro rfl (And.intro rfl trivial)))))))) ?_
          obtain ⟨t26, hl27, hf⟩ := b_bd hf
          refine t_X12_look_L77 hd hP _ _ _ _ _ _ _ _ _ _ hl27 ?_
          refine x_iload hP dX12_look_122 rfl ?_
          refine x_iload_n hP dX12_look_124 rfl ?_
          obtain ⟨v29, hc28, hf⟩ := b_bd hf
          refine y_csi hP oX12_bits lX12_435 [.int l3] [.int t26.1] rfl rfl rfl dX12_look_125 (t_X12_bits (d := d - 1) (by omega) hc28) (by omega) ?_
          refine x_iload hP dX12_look_128 rfl ?_
          refine x_isub hP dX12_look_130 ?_
          obtain ⟨t30, het30, hf⟩ := b_bd hf
          have hj30 : P 146 [some (.ref 67), none, some (.int l2), some (.int l3), some (.int l4), some (.int l5), some (.int l6), none, none] [.int t30] LAY t26.2 := by
            refine x_istore hP (ls2 := [some (.ref 67), none, some (.int l2), some (.int l3), some (.int l4), some (.int l5), some (.int l6), none, some (.int t30)]) dX12_look_146 rfl rfl ?_
            refine x_iload hP dX12_look_148 rfl ?_
            refine x_if_lt hP dX12_look_150 (tgt := 163) (by decide) (fun c34 => ?_) (fun c34 => ?_)
            · replace hf := p_t c34 hf
              refine x_iload hP dX12_look_163 rfl ?_
              refine x_istore hP (ls2 := [some (.ref 67), none, some (.int l2), some (.int l3), some (.int l6), some (.int l5), some (.int l6), none, some (.int t30)]) dX12_look_165 rfl rfl ?_
              refine x_iload hP dX12_look_167 rfl ?_
              refine x_istore hP (ls2 := [some (.ref 67), none, some (.int l2), some (.int l3), some (.int l6), some (.int t30), some (.int l6), none, some (.int t30)]) dX12_look_169 rfl rfl ?_
              obtain ⟨v35, hv35, hf⟩ := b_lt hf
              refine x_iinc hP (v := v35) (ls2 := [some (.ref 67), none, some (.int l2), some (.int l3), some (.int l6), some (.int t30), some (.int v35), none, some (.int t30)]) dX12_look_171 rfl (by rw [hv35]; rfl) rfl rfl ?_
              refine x_goto hP dX12_look_174 (tgt := 41) (by decide) ?_
              refine x_drop hP [some (.ref 67), none, some (.int l2), some (.int l3), some (.int l6), some (.int t30), some (.int v35), none, none] (And.intro rfl (And.intro rfl (And.intro rfl (And.intro rfl (And.intro rfl (And.intro rfl trivial)))))) ?_
              exact ih _ _ _ _ _ _ _ hf hx
            · replace hf := p_f c34 hf
              refine x_iload hP dX12_look_153 rfl ?_
              refine x_iload hP dX12_look_155 rfl ?_
              refine x_icmp_lt hP dX12_look_157 (tgt := 163) (by decide) (fun c36 => ?_) (fun c36 => ?_)
              · replace hf := p_t c36 hf
                refine x_iload hP dX12_look_163 rfl ?_
                refine x_istore hP (ls2 := [some (.ref 67), none, some (.int l2), some (.int l3), some (.int l6), some (.int l5), some (.int l6), none, some (.int t30)]) dX12_look_165 rfl rfl ?_
                refine x_iload hP dX12_look_167 rfl ?_
                refine x_istore hP (ls2 := [some (.ref 67), none, some (.int l2), some (.int l3), some (.int l6), some (.int t30), some (.int l6), none, some (.int t30)]) dX12_look_169 rfl rfl ?_
                obtain ⟨v37, hv37, hf⟩ := b_lt hf
                refine x_iinc hP (v := v37) (ls2 := [some (.ref 67), none, some (.int l2), some (.int l3), some (.int l6), some (.int t30), some (.int v37), none, some (.int t30)]) dX12_look_171 rfl (by rw [hv37]; rfl) rfl rfl ?_
                refine x_goto hP dX12_look_174 (tgt := 41) (by decide) ?_
                refine x_drop hP [some (.ref 67), none, some (.int l2), some (.int l3), some (.int l6), some (.int t30), some (.int v37), none, none] (And.intro rfl (And.intro rfl (And.intro rfl (And.intro rfl (And.intro rfl (And.intro rfl trivial)))))) ?_
                exact ih _ _ _ _ _ _ _ hf hx
              · replace hf := p_f c36 hf
                refine x_goto hP dX12_look_160 (tgt := 171) (by decide) ?_
                obtain ⟨v38, hv38, hf⟩ := b_lt hf
                refine x_iinc hP (v := v38) (ls2 := [some (.ref 67), none, some (.int l2), some (.int l3), some (.int l4), some (.int l5), some (.int v38), none, some (.int t30)]) dX12_look_171 rfl (by rw [hv38]; rfl) rfl rfl ?_
                refine x_goto hP dX12_look_174 (tgt := 41) (by decide) ?_
                refine x_drop hP [some (.ref 67), none, some (.int l2), some (.int l3), some (.int l4), some (.int l5), some (.int v38), none, none] (And.intro rfl (And.intro rfl (And.intro rfl (And.intro rfl (And.intro rfl (And.intro rfl trivial)))))) ?_
                exact ih _ _ _ _ _ _ _ hf hx
          clear hf
          have hf := het30
          clear het30
          refine x_icmp_le hP dX12_look_131 (tgt := 139) (by decide) (fun c31 => ?_) (fun c31 => ?_)
          · replace hf := p_t c31 hf
            refine x_iload_n hP dX12_look_139 rfl ?_
            obtain ⟨v33, hc32, hf⟩ := b_bd hf
            refine y_csi hP oX12_bits lX12_435 [.int l3] [] rfl rfl rfl dX12_look_140 (t_X12_bits (d := d - 1) (by omega) hc32) (by omega) ?_
            refine x_iload hP dX12_look_143 rfl ?_
            refine x_isub hP dX12_look_145 ?_
            refine x_drop hP [some (.ref 67), none, some (.int l2), some (.int l3), some (.int l4), some (.int l5), some (.int l6), none, none] (And.intro rfl (And.intro rfl (And.intro rfl (And.intro rfl (And.intro rfl (And.intro rfl trivial)))))) ?_
            cases hf
            exact hj30
          · replace hf := p_f c31 hf
            refine x_iload hP dX12_look_134 rfl ?_
            refine x_goto hP dX12_look_136 (tgt := 146) (by decide) ?_
            refine x_drop hP [some (.ref 67), none, some (.int l2), some (.int l3), some (.int l4), some (.int l5), some (.int l6), none, none] (And.intro rfl (And.intro rfl (And.intro rfl (And.intro rfl (And.intro rfl (And.intro rfl trivial)))))) ?_
            cases hf
            exact hj30
        · replace hf := p_t c14 hf
          refine x_goto hP dX12_look_68 (tgt := 171) (by decide) ?_
          obtain ⟨v15, hv15, hf⟩ := b_lt hf
          refine x_iinc hP (v := v15) (ls2 := [some (.ref 67), none, some (.int l2), some (.int l3), some (.int l4), some (.int l5), some (.int v15), none, none]) dX12_look_171 rfl (by rw [hv15]; rfl) rfl rfl ?_
          refine x_goto hP dX12_look_174 (tgt := 41) (by decide) ?_
          refine x_drop hP [some (.ref 67), none, some (.int l2), some (.int l3), some (.int l4), some (.int l5), some (.int v15), none, none] (And.intro rfl (And.intro rfl (And.intro rfl (And.intro rfl (And.intro rfl (And.intro rfl trivial)))))) ?_
          exact ih _ _ _ _ _ _ _ hf hx
set_option maxHeartbeats 1000000 in
set_option maxRecDepth 20000 in
theorem t_X12_look {g : GG} {d : Nat} (hd : 7 ≤ d) {x1 : Int32} {x2 : Int32} {M : Mem} {r : Int32} {M' : Mem} (hf : f_X12_look x1 x2 M = some (r, M')) : ExM g d iX12_look [.ref 67, .int x1, .int x2] LAY M (some (.int r), LAY, M') := by
  have hd1 : 1 ≤ d := by omega
  refine ExM.main pnX12 rfl (ls := [some (.ref 67), some (.int x1), some (.int x2), none, none, none, none, none, none]) rfl ?_
  intro P hP
  rw [f_X12_look] at hf
  refine x_iload_n hP dX12_look_0 rfl ?_
  refine x_iconst hP dX12_look_1 (v := 0) rfl ?_
  refine x_aload_n hP dX12_look_2 rfl ?_
  refine x_getI hP fX12_272 lay67 dX12_look_3 ?_
  obtain ⟨v2, hc1, hf⟩ := b_bd hf
  refine y_csi hP oX12_in lX12_334 [.int x1, .int (0 : Int32), .int (M.1 67 66)] [] rfl rfl rfl dX12_look_6 (t_X12_in (d := d - 1) (by omega) hc1) (by omega) ?_
  refine x_if_eq hP dX12_look_9 (tgt := 23) (by decide) (fun c3 => ?_) (fun c3 => ?_)
  · replace hf := p_t c3 hf
    refine x_iconst hP dX12_look_23 (v := (-1)) rfl ?_
    cases hf
    exact x_iret hP rfl dX12_look_24
  · replace hf := p_f c3 hf
    refine x_iload_n hP dX12_look_12 rfl ?_
    refine x_iconst hP dX12_look_13 (v := 0) rfl ?_
    refine x_sipush hP dX12_look_14 (v := 999) rfl ?_
    obtain ⟨v5, hc4, hf⟩ := b_bd hf
    refine y_csi hP oX12_in lX12_334 [.int x2, .int (0 : Int32), .int (999 : Int32)] [] rfl rfl rfl dX12_look_17 (t_X12_in (d := d - 1) (by omega) hc4) (by omega) ?_
    refine x_if_ne hP dX12_look_20 (tgt := 25) (by decide) (fun c6 => ?_) (fun c6 => ?_)
    · replace hf := p_f c6 hf
      refine x_aload_n hP dX12_look_25 rfl ?_
      refine x_iload_n hP dX12_look_26 rfl ?_
      obtain ⟨t8, hc7, hf⟩ := b_bd hf
      refine y_cvi hP oX12_wordBits lX12_468 [.int x1] [] rfl rfl rfl lay67 dX12_look_27 (t_X12_wordBits (d := d - 1) (by omega) hc7) (by omega) ?_
      refine x_istore_n hP (ls2 := [some (.ref 67), some (.int x1), some (.int x2), some (.int t8.1), none, none, none, none, none]) dX12_look_30 rfl rfl rfl ?_
      refine x_bipush hP dX12_look_31 (v := (-2)) rfl ?_
      refine x_istore hP (ls2 := [some (.ref 67), some (.int x1), some (.int x2), some (.int t8.1), some (.int (-2 : Int32)), none, none, none, none]) dX12_look_33 rfl rfl ?_
      refine x_iconst hP dX12_look_35 (v := 0) rfl ?_
      refine x_istore hP (ls2 := [some (.ref 67), some (.int x1), some (.int x2), some (.int t8.1), some (.int (-2 : Int32)), some (.int (0 : Int32)), none, none, none]) dX12_look_36 rfl rfl ?_
      refine x_iconst hP dX12_look_38 (v := 0) rfl ?_
      refine x_istore hP (ls2 := [some (.ref 67), some (.int x1), some (.int x2), some (.int t8.1), some (.int (-2 : Int32)), some (.int (0 : Int32)), some (.int (0 : Int32)), none, none]) dX12_look_39 rfl rfl ?_
      refine x_drop hP [some (.ref 67), none, some (.int x2), some (.int t8.1), some (.int (-2 : Int32)), some (.int (0 : Int32)), some (.int (0 : Int32)), none, none] (And.intro rfl (And.intro rfl (And.intro rfl (And.intro rfl (And.intro rfl (And.intro rfl trivial)))))) ?_
      obtain ⟨t39, hl40, hf⟩ := b_bd hf
      refine t_X12_look_L41 hd hP _ _ _ _ _ _ _ _ hl40 ?_
      refine x_iload hP dX12_look_177 rfl ?_
      cases hf
      exact x_iret hP rfl dX12_look_179
    · replace hf := p_t c6 hf
      refine x_iconst hP dX12_look_23 (v := (-1)) rfl ?_
      cases hf
      exact x_iret hP rfl dX12_look_24
def f_X12_hold_L20 : Nat → Int32 → Int32 → Mem → Option (Mem)
  | 0, _, _, _ => none
  | fu + 1, l1, l2, M =>
    if (48 : Int32) ≤ l2 then
      some M
    else
      (ag M 103 48 l2).bind fun v6 =>
      (pg M 117 144 (((48 : Int32) * l1) + l2) v6).bind fun M7 =>
      lt (l2 + 1 : Int32) fun v8 =>
      f_X12_hold_L20 fu l1 v8 M7
def f_X12_hold (x1 : Int32) (M : Mem) : Option (Int32 × Mem) :=
  (f_X12_in x1 (0 : Int32) (2 : Int32)).bind fun v2 =>
  if v2 = 0 then
    some ((0 : Int32), M)
  else
    (pz M 116 3 x1 (1 : Int32)).bind fun M4 =>
    (f_X12_hold_L20 FU x1 (0 : Int32) M4).bind fun t9 =>
    some ((1 : Int32), t9)
set_option maxHeartbeats 1000000 in
set_option maxRecDepth 20000 in
theorem t_X12_hold_L20 {g : GG} {d : Nat} {P : PT} {res : Option RS} (hd : 2 ≤ d)  (hP : IsM g iX12_hold d res P) : ∀ (fu : Nat) (l1 : Int32) (l2 : Int32) (M : Mem) (t : Mem), f_X12_hold_L20 fu l1 l2 M = some t → P 49 [none, none, none] [] LAY t → P 20 [some (.ref 67), some (.int l1), some (.int l2)] [] LAY M := by
  have hd1 : 1 ≤ d := by omega
  intro fu
  induction fu with
  | zero => intro l1 l2 M t hf; simp [f_X12_hold_L20] at hf
  | succ fu ih =>
    intro l1 l2 M t hf hx
    rw [f_X12_hold_L20] at hf
    refine x_iload_n hP dX12_hold_20 rfl ?_
    refine x_bipush hP dX12_hold_21 (v := 48) rfl ?_
    refine x_icmp_ge hP dX12_hold_23 (tgt := 49) (by decide) (fun c5 => ?_) (fun c5 => ?_)
    · replace hf := p_t c5 hf
      refine x_drop hP [none, none, none] trivial ?_
      cases hf
      exact hx
    · replace hf := p_f c5 hf
      refine x_aload_n hP dX12_hold_26 rfl ?_
      refine x_getA hP fX12_167 lay67 (r := 117) rfl dX12_hold_27 ?_
      refine x_bipush hP dX12_hold_30 (v := 48) rfl ?_
      refine x_iload_n hP dX12_hold_32 rfl ?_
      refine x_imul hP dX12_hold_33 ?_
      refine x_iload_n hP dX12_hold_34 rfl ?_
      refine x_iadd hP dX12_hold_35 ?_
      refine x_aload_n hP dX12_hold_36 rfl ?_
      refine x_getA hP fX12_125 lay67 (r := 103) rfl dX12_hold_37 ?_
      refine x_iload_n hP dX12_hold_40 rfl ?_
      obtain ⟨v6, hiv6, hv6, hf⟩ := b_ag hf
      refine y_ald hP lay103 hiv6 hv6 dX12_hold_41 ?_
      obtain ⟨M7, hiM7, hM7, hf⟩ := b_pg hf
      refine y_ast hP lay117 hiM7 hM7 dX12_hold_42 ?_
      obtain ⟨v8, hv8, hf⟩ := b_lt hf
      refine x_iinc hP (v := v8) (ls2 := [some (.ref 67), some (.int l1), some (.int v8)]) dX12_hold_43 rfl (by rw [hv8]; rfl) rfl rfl ?_
      refine x_goto hP dX12_hold_46 (tgt := 20) (by decide) ?_
      refine x_drop hP [some (.ref 67), some (.int l1), some (.int v8)] (And.intro rfl (And.intro rfl (And.intro rfl trivial))) ?_
      exact ih _ _ _ _ hf hx
set_option maxHeartbeats 1000000 in
set_option maxRecDepth 20000 in
theorem t_X12_hold {g : GG} {d : Nat} (hd : 2 ≤ d) {x1 : Int32} {M : Mem} {r : Int32} {M' : Mem} (hf : f_X12_hold x1 M = some (r, M')) : ExM g d iX12_hold [.ref 67, .int x1] LAY M (some (.int r), LAY, M') := by
  have hd1 : 1 ≤ d := by omega
  refine ExM.main pnX12 rfl (ls := [some (.ref 67), some (.int x1), none]) rfl ?_
  intro P hP
  rw [f_X12_hold] at hf
  refine x_iload_n hP dX12_hold_0 rfl ?_
  refine x_iconst hP dX12_hold_1 (v := 0) rfl ?_
  refine x_iconst hP dX12_hold_2 (v := 2) rfl ?_
  obtain ⟨v2, hc1, hf⟩ := b_bd hf
  refine y_csi hP oX12_in lX12_334 [.int x1, .int (0 : Int32), .int (2 : Int32)] [] rfl rfl rfl dX12_hold_3 (t_X12_in (d := d - 1) (by omega) hc1) (by omega) ?_
  refine x_if_ne hP dX12_hold_6 (tgt := 11) (by decide) (fun c3 => ?_) (fun c3 => ?_)
  · replace hf := p_f c3 hf
    refine x_aload_n hP dX12_hold_11 rfl ?_
    refine x_getA hP fX12_164 lay67 (r := 116) rfl dX12_hold_12 ?_
    refine x_iload_n hP dX12_hold_15 rfl ?_
    refine x_iconst hP dX12_hold_16 (v := 1) rfl ?_
    obtain ⟨M4, hiM4, hM4, hf⟩ := b_pz hf
    refine y_zst hP lay116 hiM4 hM4 dX12_hold_17 ?_
    refine x_iconst hP dX12_hold_18 (v := 0) rfl ?_
    refine x_istore_n hP (ls2 := [some (.ref 67), some (.int x1), some (.int (0 : Int32))]) dX12_hold_19 rfl rfl rfl ?_
    refine x_drop hP [some (.ref 67), some (.int x1), some (.int (0 : Int32))] (And.intro rfl (And.intro rfl (And.intro rfl trivial))) ?_
    obtain ⟨t9, hl10, hf⟩ := b_bd hf
    refine t_X12_hold_L20 hd hP _ _ _ _ _ hl10 ?_
    refine x_iconst hP dX12_hold_49 (v := 1) rfl ?_
    cases hf
    exact x_zret hP rfl (Or.inr rfl) dX12_hold_50
  · replace hf := p_t c3 hf
    refine x_iconst hP dX12_hold_9 (v := 0) rfl ?_
    cases hf
    exact x_zret hP rfl (Or.inl rfl) dX12_hold_10
def f_X12_restore_L22 : Nat → Int32 → Int32 → Mem → Option (Mem)
  | 0, _, _, _ => none
  | fu + 1, l1, l2, M =>
    if (48 : Int32) ≤ l2 then
      some M
    else
      (ag M 117 144 (((48 : Int32) * l1) + l2)).bind fun v7 =>
      (pg M 103 48 l2 v7).bind fun M8 =>
      lt (l2 + 1 : Int32) fun v9 =>
      f_X12_restore_L22 fu l1 v9 M8
def f_X12_restore (x1 : Int32) (M : Mem) : Option (Int32 × Mem) :=
  (f_X12_in x1 (0 : Int32) (2 : Int32)).bind fun v2 =>
  if v2 = 0 then
    some ((0 : Int32), M)
  else
    (ag M 116 3 x1).bind fun v4 =>
    if v4 = 0 then
      some ((0 : Int32), M)
    else
      (f_X12_restore_L22 FU x1 (0 : Int32) M).bind fun t10 =>
      lt (sI t10 67 60 (0 : Int32)) fun M12 =>
      some ((1 : Int32), M12)
set_option maxHeartbeats 1000000 in
set_option maxRecDepth 20000 in
theorem t_X12_restore_L22 {g : GG} {d : Nat} {P : PT} {res : Option RS} (hd : 2 ≤ d)  (hP : IsM g iX12_restore d res P) : ∀ (fu : Nat) (l1 : Int32) (l2 : Int32) (M : Mem) (t : Mem), f_X12_restore_L22 fu l1 l2 M = some t → P 51 [some (.ref 67), none, none] [] LAY t → P 22 [some (.ref 67), some (.int l1), some (.int l2)] [] LAY M := by
  have hd1 : 1 ≤ d := by omega
  intro fu
  induction fu with
  | zero => intro l1 l2 M t hf; simp [f_X12_restore_L22] at hf
  | succ fu ih =>
    intro l1 l2 M t hf hx
    rw [f_X12_restore_L22] at hf
    refine x_iload_n hP dX12_restore_22 rfl ?_
    refine x_bipush hP dX12_restore_23 (v := 48) rfl ?_
    refine x_icmp_ge hP dX12_restore_25 (tgt := 51) (by decide) (fun c6 => ?_) (fun c6 => ?_)
    · replace hf := p_t c6 hf
      refine x_drop hP [some (.ref 67), none, none] (And.intro rfl trivial) ?_
      cases hf
      exact hx
    · replace hf := p_f c6 hf
      refine x_aload_n hP dX12_restore_28 rfl ?_
      refine x_getA hP fX12_125 lay67 (r := 103) rfl dX12_restore_29 ?_
      refine x_iload_n hP dX12_restore_32 rfl ?_
      refine x_aload_n hP dX12_restore_33 rfl ?_
      refine x_getA hP fX12_167 lay67 (r := 117) rfl dX12_restore_34 ?_
      refine x_bipush hP dX12_restore_37 (v := 48) rfl ?_
      refine x_iload_n hP dX12_restore_39 rfl ?_
      refine x_imul hP dX12_restore_40 ?_
      refine x_iload_n hP dX12_restore_41 rfl ?_
      refine x_iadd hP dX12_restore_42 ?_
      obtain ⟨v7, hiv7, hv7, hf⟩ := b_ag hf
      refine y_ald hP lay117 hiv7 hv7 dX12_restore_43 ?_
      obtain ⟨M8, hiM8, hM8, hf⟩ := b_pg hf
      refine y_ast hP lay103 hiM8 hM8 dX12_restore_44 ?_
      obtain ⟨v9, hv9, hf⟩ := b_lt hf
      refine x_iinc hP (v := v9) (ls2 := [some (.ref 67), some (.int l1), some (.int v9)]) dX12_restore_45 rfl (by rw [hv9]; rfl) rfl rfl ?_
      refine x_goto hP dX12_restore_48 (tgt := 22) (by decide) ?_
      refine x_drop hP [some (.ref 67), some (.int l1), some (.int v9)] (And.intro rfl (And.intro rfl (And.intro rfl trivial))) ?_
      exact ih _ _ _ _ hf hx
set_option maxHeartbeats 1000000 in
set_option maxRecDepth 20000 in
theorem t_X12_restore {g : GG} {d : Nat} (hd : 2 ≤ d) {x1 : Int32} {M : Mem} {r : Int32} {M' : Mem} (hf : f_X12_restore x1 M = some (r, M')) : ExM g d iX12_restore [.ref 67, .int x1] LAY M (some (.int r), LAY, M') := by
  have hd1 : 1 ≤ d := by omega
  refine ExM.main pnX12 rfl (ls := [some (.ref 67), some (.int x1), none]) rfl ?_
  intro P hP
  rw [f_X12_restore] at hf
  refine x_iload_n hP dX12_restore_0 rfl ?_
  refine x_iconst hP dX12_restore_1 (v := 0) rfl ?_
  refine x_iconst hP dX12_restore_2 (v := 2) rfl ?_
  obtain ⟨v2, hc1, hf⟩ := b_bd hf
  refine y_csi hP oX12_in lX12_334 [.int x1, .int (0 : Int32), .int (2 : Int32)] [] rfl rfl rfl dX12_restore_3 (t_X12_in (d := d - 1) (by omega) hc1) (by omega) ?_
  refine x_if_eq hP dX12_restore_6 (tgt := 18) (by decide) (fun c3 => ?_) (fun c3 => ?_)
  · replace hf := p_t c3 hf
    refine x_iconst hP dX12_restore_18 (v := 0) rfl ?_
    cases hf
    exact x_zret hP rfl (Or.inl rfl) dX12_restore_19
  · replace hf := p_f c3 hf
    refine x_aload_n hP dX12_restore_9 rfl ?_
    refine x_getA hP fX12_164 lay67 (r := 116) rfl dX12_restore_10 ?_
    refine x_iload_n hP dX12_restore_13 rfl ?_
    obtain ⟨v4, hiv4, hv4, hf⟩ := b_ag hf
    refine y_zld hP lay116 hiv4 hv4 dX12_restore_14 ?_
    refine x_if_ne hP dX12_restore_15 (tgt := 20) (by decide) (fun c5 => ?_) (fun c5 => ?_)
    · replace hf := p_f c5 hf
      refine x_iconst hP dX12_restore_20 (v := 0) rfl ?_
      refine x_istore_n hP (ls2 := [some (.ref 67), some (.int x1), some (.int (0 : Int32))]) dX12_restore_21 rfl rfl rfl ?_
      refine x_drop hP [some (.ref 67), some (.int x1), some (.int (0 : Int32))] (And.intro rfl (And.intro rfl (And.intro rfl trivial))) ?_
      obtain ⟨t10, hl11, hf⟩ := b_bd hf
      refine t_X12_restore_L22 hd hP _ _ _ _ _ hl11 ?_
      refine x_aload_n hP dX12_restore_51 rfl ?_
      refine x_iconst hP dX12_restore_52 (v := 0) rfl ?_
      obtain ⟨M12, hM12, hf⟩ := b_lt hf
      refine y_putI hP fX12_269 lay67 hM12 dX12_restore_53 ?_
      refine x_iconst hP dX12_restore_56 (v := 1) rfl ?_
      cases hf
      exact x_zret hP rfl (Or.inr rfl) dX12_restore_57
    · replace hf := p_t c5 hf
      refine x_iconst hP dX12_restore_18 (v := 0) rfl ?_
      cases hf
      exact x_zret hP rfl (Or.inl rfl) dX12_restore_19
def f_X12_sumNow_L5 : Nat → Int32 → Int32 → Int32 → Int32 → Mem → Option (Int32)
  | 0, _, _, _, _, _ => none
  | fu + 1, l1, l2, l3, l4, M =>
    if l1 + l2 ≤ l4 then
      some l3
    else
      (ag M 103 48 l4).bind fun v2 =>
      lt (l3 + v2 : Int32) fun v3 =>
      lt (l4 + 1 : Int32) fun v4 =>
      f_X12_sumNow_L5 fu l1 l2 v3 v4 M
def f_X12_sumNow (x1 : Int32) (x2 : Int32) (M : Mem) : Option (Int32) :=
  (f_X12_sumNow_L5 FU x1 x2 (0 : Int32) x1 M).bind fun t5 =>
  some t5
set_option maxHeartbeats 1000000 in
set_option maxRecDepth 20000 in
theorem t_X12_sumNow_L5 {g : GG} {d : Nat} {P : PT} {res : Option RS} (hd : 1 ≤ d)  (hP : IsM g iX12_sumNow d res P) : ∀ (fu : Nat) (l1 : Int32) (l2 : Int32) (l3 : Int32) (l4 : Int32) (M : Mem) (t : Int32), f_X12_sumNow_L5 fu l1 l2 l3 l4 M = some t → P 29 [none, none, none, some (.int t), none] [] LAY M → P 5 [some (.ref 67), some (.int l1), some (.int l2), some (.int l3), some (.int l4)] [] LAY M := by
  have hd1 : 1 ≤ d := by omega
  intro fu
  induction fu with
  | zero => intro l1 l2 l3 l4 M t hf; simp [f_X12_sumNow_L5] at hf
  | succ fu ih =>
    intro l1 l2 l3 l4 M t hf hx
    rw [f_X12_sumNow_L5] at hf
    refine x_iload hP dX12_sumNow_5 rfl ?_
    refine x_iload_n hP dX12_sumNow_7 rfl ?_
    refine x_iload_n hP dX12_sumNow_8 rfl ?_
    refine x_iadd hP dX12_sumNow_9 ?_
    refine x_icmp_ge hP dX12_sumNow_10 (tgt := 29) (by decide) (fun c1 => ?_) (fun c1 => ?_)
    · replace hf := p_t c1 hf
      refine x_drop hP [none, none, none, some (.int l3), none] (And.intro rfl trivial) ?_
      cases hf
      exact hx
    · replace hf := p_f c1 hf
      refine x_iload_n hP dX12_sumNow_13 rfl ?_
      refine x_aload_n hP dX12_sumNow_14 rfl ?_
      refine x_getA hP fX12_125 lay67 (r := 103) rfl dX12_sumNow_15 ?_
      refine x_iload hP dX12_sumNow_18 rfl ?_
      obtain ⟨v2, hiv2, hv2, hf⟩ := b_ag hf
      refine y_ald hP lay103 hiv2 hv2 dX12_sumNow_20 ?_
      refine x_iadd hP dX12_sumNow_21 ?_
      obtain ⟨v3, hv3, hf⟩ := b_lt hf
      refine y_nmI hv3 ?_
      refine x_istore_n hP (ls2 := [some (.ref 67), some (.int l1), some (.int l2), some (.int v3), some (.int l4)]) dX12_sumNow_22 rfl rfl rfl ?_
      obtain ⟨v4, hv4, hf⟩ := b_lt hf
      refine x_iinc hP (v := v4) (ls2 := [some (.ref 67), some (.int l1), some (.int l2), some (.int v3), some (.int v4)]) dX12_sumNow_23 rfl (by rw [hv4]; rfl) rfl rfl ?_
      refine x_goto hP dX12_sumNow_26 (tgt := 5) (by decide) ?_
      refine x_drop hP [some (.ref 67), some (.int l1), some (.int l2), some (.int v3), some (.int v4)] (And.intro rfl (And.intro rfl (And.intro rfl (And.intro rfl (And.intro rfl trivial))))) ?_
      exact ih _ _ _ _ _ _ hf hx
set_option maxHeartbeats 1000000 in
set_option maxRecDepth 20000 in
theorem t_X12_sumNow {g : GG} {d : Nat} (hd : 1 ≤ d) {x1 : Int32} {x2 : Int32} {M : Mem} {r : Int32} (hf : f_X12_sumNow x1 x2 M = some r) : ExM g d iX12_sumNow [.ref 67, .int x1, .int x2] LAY M (some (.int r), LAY, M) := by
  have hd1 : 1 ≤ d := by omega
  refine ExM.main pnX12 rfl (ls := [some (.ref 67), some (.int x1), some (.int x2), none, none]) rfl ?_
  intro P hP
  rw [f_X12_sumNow] at hf
  refine x_iconst hP dX12_sumNow_0 (v := 0) rfl ?_
  refine x_istore_n hP (ls2 := [some (.ref 67), some (.int x1), some (.int x2), some (.int (0 : Int32)), none]) dX12_sumNow_1 rfl rfl rfl ?_
  refine x_iload_n hP dX12_sumNow_2 rfl ?_
  refine x_istore hP (ls2 := [some (.ref 67), some (.int x1), some (.int x2), some (.int (0 : Int32)), some (.int x1)]) dX12_sumNow_3 rfl rfl ?_
  refine x_drop hP [some (.ref 67), some (.int x1), some (.int x2), some (.int (0 : Int32)), some (.int x1)] (And.intro rfl (And.intro rfl (And.intro rfl (And.intro rfl (And.intro rfl trivial))))) ?_
  obtain ⟨t5, hl6, hf⟩ := b_bd hf
  refine t_X12_sumNow_L5 hd hP _ _ _ _ _ _ _ hl6 ?_
  refine x_iload_n hP dX12_sumNow_29 rfl ?_
  cases hf
  exact x_iret hP rfl dX12_sumNow_30
def f_X12_count_L262 : Nat → Int32 → Int32 → Mem → Option (Int32)
  | 0, _, _, _ => none
  | fu + 1, l2, l3, M =>
    (ag M 77 2 (M.1 67 18)).bind fun v44 =>
    if v44 ≤ l3 then
      some l2
    else
      (f_X12_outAt l3 M).bind fun v47 =>
      if v47 = 0 then
        lt (l3 + 1 : Int32) fun v49 =>
        f_X12_count_L262 fu l2 v49 M
      else
        lt (l2 ||| ((1 : Int32) <<< (l3 &&& 31)) : Int32) fun v50 =>
        lt (l3 + 1 : Int32) fun v51 =>
        f_X12_count_L262 fu v50 v51 M
def f_X12_count_L316 : Nat → Int32 → Int32 → Mem → Option (Int32)
  | 0, _, _, _ => none
  | fu + 1, l2, l3, M =>
    (ag M 82 2 (M.1 67 18)).bind fun v63 =>
    if v63 ≤ l3 then
      some l2
    else
      (ag M 104 48 ((30 : Int32) + l3)).bind fun v65 =>
      lt (l2 ||| (v65 <<< (l3 &&& 31)) : Int32) fun v66 =>
      lt (l3 + 1 : Int32) fun v67 =>
      f_X12_count_L316 fu v66 v67 M
def f_X12_count_L361 : Nat → Int32 → Int32 → Mem → Option (Int32)
  | 0, _, _, _ => none
  | fu + 1, l2, l3, M =>
    (ag M 78 2 (M.1 67 18)).bind fun v76 =>
    if v76 ≤ l3 then
      some l2
    else
      (f_X12_needsOf l3 M).bind fun v79 =>
      lt (l2 + v79 : Int32) fun v80 =>
      lt (l3 + 1 : Int32) fun v81 =>
      f_X12_count_L361 fu v80 v81 M
def f_X12_count (x1 : Int32) (M : Mem) : Option (Int32 × Mem) :=
  (f_X12_copies M).bind fun M2 =>
  if x1 = 0 then
    (ag M2 77 2 (M2.1 67 18)).bind fun v4 =>
    some (v4, M2)
  else
  if x1 = 1 then
    (ag M2 78 2 (M2.1 67 18)).bind fun v6 =>
    some (v6, M2)
  else
  if x1 = 2 then
    (ag M2 82 2 (M2.1 67 18)).bind fun v8 =>
    some (v8, M2)
  else
  if x1 = 3 then
    (ag M2 86 2 (M2.1 67 18)).bind fun v10 =>
    some (v10, M2)
  else
  if x1 = 4 then
    (ag M2 104 48 (47 : Int32)).bind fun v12 =>
    some (v12, M2)
  else
  if x1 = 5 then
    (ag M2 104 48 (46 : Int32)).bind fun v14 =>
    some (v14, M2)
  else
  if x1 = 6 then
    (f_X12_litBits M2).bind fun t17 =>
    some (t17.1, t17.2)
  else
  if x1 = 7 then
    (f_X12_homeBits M2).bind fun v20 =>
    some (v20, M2)
  else
  if x1 = 8 then
    some (M2.1 67 2, M2)
  else
  if x1 = 9 then
    some (M2.1 67 60, M2)
  else
  if x1 = 10 then
    some (M2.1 67 66, M2)
  else
  if x1 = 11 then
    (ag M2 116 3 (0 : Int32)).bind fun v25 =>
    lt (
      if v25 = 0 then
        (0 : Int32)
      else
        (1 : Int32)
     : Int32) fun t26 =>
    (ag M2 116 3 (1 : Int32)).bind fun v28 =>
    lt (
      if v28 = 0 then
        (0 : Int32)
      else
        (1 : Int32)
     : Int32) fun t29 =>
    (ag M2 116 3 (2 : Int32)).bind fun v31 =>
    if v31 = 0 then
      some ((t26 + t29) + (0 : Int32), M2)
    else
      some ((t26 + t29) + (1 : Int32), M2)
  else
  if x1 = 12 then
    (f_X12_isDraught M2).bind fun v35 =>
    if v35 = 0 then
      some ((0 : Int32), M2)
    else
      some ((1 : Int32), M2)
  else
  if x1 = 13 then
    (f_X12_sumNow (6 : Int32) (6 : Int32) M2).bind fun v39 =>
    some (v39, M2)
  else
  if x1 = 14 then
    (f_X12_sumNow (36 : Int32) (5 : Int32) M2).bind fun v42 =>
    some (v42, M2)
  else
  if x1 = 15 then
    (f_X12_count_L262 FU (0 : Int32) (0 : Int32) M2).bind fun t52 =>
    some (t52, M2)
  else
  if x1 = 16 then
    (f_X12_sumNow (18 : Int32) (6 : Int32) M2).bind fun v56 =>
    some (v56, M2)
  else
  if x1 = 17 then
    (f_X12_litBits M2).bind fun t59 =>
    (f_X12_bits t59.1).bind fun v61 =>
    some (v61, t59.2)
  else
  if x1 = 18 then
    (f_X12_count_L316 FU (0 : Int32) (0 : Int32) M2).bind fun t68 =>
    some (t68, M2)
  else
  if x1 = 19 then
    (f_X12_homeBits M2).bind fun v72 =>
    (f_X12_bits v72).bind fun v74 =>
    some (v74, M2)
  else
  if x1 = 20 then
    (f_X12_count_L361 FU (0 : Int32) (0 : Int32) M2).bind fun t82 =>
    some (t82, M2)
  else
  some ((-1 : Int32), M2)
set_option maxHeartbeats 1000000 in
set_option maxRecDepth 20000 in
theorem t_X12_count_L262 {g : GG} {d : Nat} {P : PT} {res : Option RS} (hd : 4 ≤ d)  (hP : IsM g iX12_count d res P) : ∀ (fu : Nat) (l2 : Int32) (l3 : Int32) (M : Mem) (t : Int32), f_X12_count_L262 fu l2 l3 M = some t → P 295 [none, none, some (.int t), none] [] LAY M → P 262 [some (.ref 67), none, some (.int l2), some (.int l3)] [] LAY M := by
  have hd1 : 1 ≤ d := by omega
  intro fu
  induction fu with
  | zero => intro l2 l3 M t hf; simp [f_X12_count_L262] at hf
  | succ fu ih =>
    intro l2 l3 M t hf hx
    rw [f_X12_count_L262] at hf
    refine x_iload_n hP dX12_count_262 rfl ?_
    refine x_aload_n hP dX12_count_263 rfl ?_
    refine x_getA hP fX12_46 lay67 (r := 77) rfl dX12_count_264 ?_
    refine x_aload_n hP dX12_count_267 rfl ?_
    refine x_getI hP fX12_251 lay67 dX12_count_268 ?_
    obtain ⟨v44, hiv44, hv44, hf⟩ := b_ag hf
    refine y_ald hP lay77 hiv44 hv44 dX12_count_271 ?_
    refine x_icmp_ge hP dX12_count_272 (tgt := 295) (by decide) (fun c45 => ?_) (fun c45 => ?_)
    · replace hf := p_t c45 hf
      refine x_drop hP [none, none, some (.int l2), none] (And.intro rfl trivial) ?_
      cases hf
      exact hx
    · replace hf := p_f c45 hf
      refine x_aload_n hP dX12_count_275 rfl ?_
      refine x_iload_n hP dX12_count_276 rfl ?_
      obtain ⟨v47, hc46, hf⟩ := b_bd hf
      refine y_cvi hP oX12_outAt lX12_395 [.int l3] [] rfl rfl rfl lay67 dX12_count_277 (t_X12_outAt (d := d - 1) (by omega) hc46) (by omega) ?_
      refine x_if_eq hP dX12_count_280 (tgt := 289) (by decide) (fun c48 => ?_) (fun c48 => ?_)
      · replace hf := p_t c48 hf
        obtain ⟨v49, hv49, hf⟩ := b_lt hf
        refine x_iinc hP (v := v49) (ls2 := [some (.ref 67), none, some (.int l2), some (.int v49)]) dX12_count_289 rfl (by rw [hv49]; rfl) rfl rfl ?_
        refine x_goto hP dX12_count_292 (tgt := 262) (by decide) ?_
        refine x_drop hP [some (.ref 67), none, some (.int l2), some (.int v49)] (And.intro rfl (And.intro rfl (And.intro rfl trivial))) ?_
        exact ih _ _ _ _ hf hx
      · replace hf := p_f c48 hf
        refine x_iload_n hP dX12_count_283 rfl ?_
        refine x_iconst hP dX12_count_284 (v := 1) rfl ?_
        refine x_iload_n hP dX12_count_285 rfl ?_
        refine x_ishl hP dX12_count_286 ?_
        refine x_ior hP dX12_count_287 ?_
        obtain ⟨v50, hv50, hf⟩ := b_lt hf
        refine y_nmI hv50 ?_
        refine x_istore_n hP (ls2 := [some (.ref 67), none, some (.int v50), some (.int l3)]) dX12_count_288 rfl rfl rfl ?_
        obtain ⟨v51, hv51, hf⟩ := b_lt hf
        refine x_iinc hP (v := v51) (ls2 := [some (.ref 67), none, some (.int v50), some (.int v51)]) dX12_count_289 rfl (by rw [hv51]; rfl) rfl rfl ?_
        refine x_goto hP dX12_count_292 (tgt := 262) (by decide) ?_
        refine x_drop hP [some (.ref 67), none, some (.int v50), some (.int v51)] (And.intro rfl (And.intro rfl (And.intro rfl trivial))) ?_
        exact ih _ _ _ _ hf hx
set_option maxHeartbeats 1000000 in
set_option maxRecDepth 20000 in
theorem t_X12_count_L316 {g : GG} {d : Nat} {P : PT} {res : Option RS} (hd : 4 ≤ d)  (hP : IsM g iX12_count d res P) : ∀ (fu : Nat) (l2 : Int32) (l3 : Int32) (M : Mem) (t : Int32), f_X12_count_L316 fu l2 l3 M = some t → P 349 [none, none, some (.int t), none] [] LAY M → P 316 [some (.ref 67), none, some (.int l2), some (.int l3)] [] LAY M := by
  have hd1 : 1 ≤ d := by omega
  intro fu
  induction fu with
  | zero => intro l2 l3 M t hf; simp [f_X12_count_L316] at hf
  | succ fu ih =>
    intro l2 l3 M t hf hx
    rw [f_X12_count_L316] at hf
    refine x_iload_n hP dX12_count_316 rfl ?_
    refine x_aload_n hP dX12_count_317 rfl ?_
    refine x_getA hP fX12_61 lay67 (r := 82) rfl dX12_count_318 ?_
    refine x_aload_n hP dX12_count_321 rfl ?_
    refine x_getI hP fX12_251 lay67 dX12_count_322 ?_
    obtain ⟨v63, hiv63, hv63, hf⟩ := b_ag hf
    refine y_ald hP lay82 hiv63 hv63 dX12_count_325 ?_
    refine x_icmp_ge hP dX12_count_326 (tgt := 349) (by decide) (fun c64 => ?_) (fun c64 => ?_)
    · replace hf := p_t c64 hf
      refine x_drop hP [none, none, some (.int l2), none] (And.intro rfl trivial) ?_
      cases hf
      exact hx
    · replace hf := p_f c64 hf
      refine x_iload_n hP dX12_count_329 rfl ?_
      refine x_aload_n hP dX12_count_330 rfl ?_
      refine x_getA hP fX12_128 lay67 (r := 104) rfl dX12_count_331 ?_
      refine x_bipush hP dX12_count_334 (v := 30) rfl ?_
      refine x_iload_n hP dX12_count_336 rfl ?_
      refine x_iadd hP dX12_count_337 ?_
      obtain ⟨v65, hiv65, hv65, hf⟩ := b_ag hf
      refine y_ald hP lay104 hiv65 hv65 dX12_count_338 ?_
      refine x_iload_n hP dX12_count_339 rfl ?_
      refine x_ishl hP dX12_count_340 ?_
      refine x_ior hP dX12_count_341 ?_
      obtain ⟨v66, hv66, hf⟩ := b_lt hf
      refine y_nmI hv66 ?_
      refine x_istore_n hP (ls2 := [some (.ref 67), none, some (.int v66), some (.int l3)]) dX12_count_342 rfl rfl rfl ?_
      obtain ⟨v67, hv67, hf⟩ := b_lt hf
      refine x_iinc hP (v := v67) (ls2 := [some (.ref 67), none, some (.int v66), some (.int v67)]) dX12_count_343 rfl (by rw [hv67]; rfl) rfl rfl ?_
      refine x_goto hP dX12_count_346 (tgt := 316) (by decide) ?_
      refine x_drop hP [some (.ref 67), none, some (.int v66), some (.int v67)] (And.intro rfl (And.intro rfl (And.intro rfl trivial))) ?_
      exact ih _ _ _ _ hf hx
set_option maxHeartbeats 1000000 in
set_option maxRecDepth 20000 in
theorem t_X12_count_L361 {g : GG} {d : Nat} {P : PT} {res : Option RS} (hd : 4 ≤ d)  (hP : IsM g iX12_count d res P) : ∀ (fu : Nat) (l2 : Int32) (l3 : Int32) (M : Mem) (t : Int32), f_X12_count_L361 fu l2 l3 M = some t → P 388 [none, none, some (.int t), none] [] LAY M → P 361 [some (.ref 67), none, some (.int l2), some (.int l3)] [] LAY M := by
  have hd1 : 1 ≤ d := by omega
  intro fu
  induction fu with
  | zero => intro l2 l3 M t hf; simp [f_X12_count_L361] at hf
  | succ fu ih =>
    intro l2 l3 M t hf hx
    rw [f_X12_count_L361] at hf
    refine x_iload_n hP dX12_count_361 rfl ?_
    refine x_aload_n hP dX12_count_362 rfl ?_
    refine x_getA hP fX12_49 lay67 (r := 78) rfl dX12_count_363 ?_
    refine x_aload_n hP dX12_count_366 rfl ?_
    refine x_getI hP fX12_251 lay67 dX12_count_367 ?_
    obtain ⟨v76, hiv76, hv76, hf⟩ := b_ag hf
    refine y_ald hP lay78 hiv76 hv76 dX12_count_370 ?_
    refine x_icmp_ge hP dX12_count_371 (tgt := 388) (by decide) (fun c77 => ?_) (fun c77 => ?_)
    · replace hf := p_t c77 hf
      refine x_drop hP [none, none, some (.int l2), none] (And.intro rfl trivial) ?_
      cases hf
      exact hx
    · replace hf := p_f c77 hf
      refine x_iload_n hP dX12_count_374 rfl ?_
      refine x_aload_n hP dX12_count_375 rfl ?_
      refine x_iload_n hP dX12_count_376 rfl ?_
      obtain ⟨v79, hc78, hf⟩ := b_bd hf
      refine y_cvi hP oX12_needsOf lX12_408 [.int l3] [.int l2] rfl rfl rfl lay67 dX12_count_377 (t_X12_needsOf (d := d - 1) (by omega) hc78) (by omega) ?_
      refine x_iadd hP dX12_count_380 ?_
      obtain ⟨v80, hv80, hf⟩ := b_lt hf
      refine y_nmI hv80 ?_
      refine x_istore_n hP (ls2 := [some (.ref 67), none, some (.int v80), some (.int l3)]) dX12_count_381 rfl rfl rfl ?_
      obtain ⟨v81, hv81, hf⟩ := b_lt hf
      refine x_iinc hP (v := v81) (ls2 := [some (.ref 67), none, some (.int v80), some (.int v81)]) dX12_count_382 rfl (by rw [hv81]; rfl) rfl rfl ?_
      refine x_goto hP dX12_count_385 (tgt := 361) (by decide) ?_
      refine x_drop hP [some (.ref 67), none, some (.int v80), some (.int v81)] (And.intro rfl (And.intro rfl (And.intro rfl trivial))) ?_
      exact ih _ _ _ _ hf hx
set_option maxHeartbeats 1000000 in
set_option maxRecDepth 20000 in
theorem t_X12_count {g : GG} {d : Nat} (hd : 4 ≤ d) {x1 : Int32} {M : Mem} {r : Int32} {M' : Mem} (hf : f_X12_count x1 M = some (r, M')) : ExM g d iX12_count [.ref 67, .int x1] LAY M (some (.int r), LAY, M') := by
  have hd1 : 1 ≤ d := by omega
  refine ExM.main pnX12 rfl (ls := [some (.ref 67), some (.int x1), none, none]) rfl ?_
  intro P hP
  rw [f_X12_count] at hf
  refine x_aload_n hP dX12_count_0 rfl ?_
  obtain ⟨M2, hc1, hf⟩ := b_bd hf
  refine y_cvv hP oX12_copies lX12_347 [] [] rfl rfl rfl lay67 dX12_count_1 (t_X12_copies (d := d - 1) (by omega) hc1) (by omega) ?_
  refine x_iconst hP dX12_count_4 (v := 0) rfl ?_
  refine x_istore_n hP (ls2 := [some (.ref 67), some (.int x1), some (.int (0 : Int32)), none]) dX12_count_5 rfl rfl rfl ?_
  refine x_iload_n hP dX12_count_6 rfl ?_
  by_cases c3 : x1 = 0
  · refine x_tswE hP dX12_count_7 c3 (by decide) (by decide) (off := 97) rfl (tgt := 104) (by decide) ?_
    replace hf := p_t c3 hf
    refine x_aload_n hP dX12_count_104 rfl ?_
    refine x_getA hP fX12_46 lay67 (r := 77) rfl dX12_count_105 ?_
    refine x_aload_n hP dX12_count_108 rfl ?_
    refine x_getI hP fX12_251 lay67 dX12_count_109 ?_
    obtain ⟨v4, hiv4, hv4, hf⟩ := b_ag hf
    refine y_ald hP lay77 hiv4 hv4 dX12_count_112 ?_
    cases hf
    exact x_iret hP rfl dX12_count_113
  replace hf := p_f c3 hf
  by_cases c5 : x1 = 1
  · refine x_tswE hP dX12_count_7 c5 (by decide) (by decide) (off := 107) rfl (tgt := 114) (by decide) ?_
    replace hf := p_t c5 hf
    refine x_aload_n hP dX12_count_114 rfl ?_
    refine x_getA hP fX12_49 lay67 (r := 78) rfl dX12_count_115 ?_
    refine x_aload_n hP dX12_count_118 rfl ?_
    refine x_getI hP fX12_251 lay67 dX12_count_119 ?_
    obtain ⟨v6, hiv6, hv6, hf⟩ := b_ag hf
    refine y_ald hP lay78 hiv6 hv6 dX12_count_122 ?_
    cases hf
    exact x_iret hP rfl dX12_count_123
  replace hf := p_f c5 hf
  by_cases c7 : x1 = 2
  · refine x_tswE hP dX12_count_7 c7 (by decide) (by decide) (off := 117) rfl (tgt := 124) (by decide) ?_
    replace hf := p_t c7 hf
    refine x_aload_n hP dX12_count_124 rfl ?_
    refine x_getA hP fX12_61 lay67 (r := 82) rfl dX12_count_125 ?_
    refine x_aload_n hP dX12_count_128 rfl ?_
    refine x_getI hP fX12_251 lay67 dX12_count_129 ?_
    obtain ⟨v8, hiv8, hv8, hf⟩ := b_ag hf
    refine y_ald hP lay82 hiv8 hv8 dX12_count_132 ?_
    cases hf
    exact x_iret hP rfl dX12_count_133
  replace hf := p_f c7 hf
  by_cases c9 : x1 = 3
  · refine x_tswE hP dX12_count_7 c9 (by decide) (by decide) (off := 127) rfl (tgt := 134) (by decide) ?_
    replace hf := p_t c9 hf
    refine x_aload_n hP dX12_count_134 rfl ?_
    refine x_getA hP fX12_73 lay67 (r := 86) rfl dX12_count_135 ?_
    refine x_aload_n hP dX12_count_138 rfl ?_
    refine x_getI hP fX12_251 lay67 dX12_count_139 ?_
    obtain ⟨v10, hiv10, hv10, hf⟩ := b_ag hf
    refine y_ald hP lay86 hiv10 hv10 dX12_count_142 ?_
    cases hf
    exact x_iret hP rfl dX12_count_143
  replace hf := p_f c9 hf
  by_cases c11 : x1 = 4
  · refine x_tswE hP dX12_count_7 c11 (by decide) (by decide) (off := 137) rfl (tgt := 144) (by decide) ?_
    replace hf := p_t c11 hf
    refine x_aload_n hP dX12_count_144 rfl ?_
    refine x_getA hP fX12_128 lay67 (r := 104) rfl dX12_count_145 ?_
    refine x_bipush hP dX12_count_148 (v := 47) rfl ?_
    obtain ⟨v12, hiv12, hv12, hf⟩ := b_ag hf
    refine y_ald hP lay104 hiv12 hv12 dX12_count_150 ?_
    cases hf
    exact x_iret hP rfl dX12_count_151
  replace hf := p_f c11 hf
  by_cases c13 : x1 = 5
  · refine x_tswE hP dX12_count_7 c13 (by decide) (by decide) (off := 145) rfl (tgt := 152) (by decide) ?_
    replace hf := p_t c13 hf
    refine x_aload_n hP dX12_count_152 rfl ?_
    refine x_getA hP fX12_128 lay67 (r := 104) rfl dX12_count_153 ?_
    refine x_bipush hP dX12_count_156 (v := 46) rfl ?_
    obtain ⟨v14, hiv14, hv14, hf⟩ := b_ag hf
    refine y_ald hP lay104 hiv14 hv14 dX12_count_158 ?_
    cases hf
    exact x_iret hP rfl dX12_count_159
  replace hf := p_f c13 hf
  by_cases c15 : x1 = 6
  · refine x_tswE hP dX12_count_7 c15 (by decide) (by decide) (off := 153) rfl (tgt := 160) (by decide) ?_
    replace hf := p_t c15 hf
    refine x_aload_n hP dX12_count_160 rfl ?_
    obtain ⟨t17, hc16, hf⟩ := b_bd hf
    refine y_cvi hP oX12_litBits lX12_432 [] [] rfl rfl rfl lay67 dX12_count_161 (t_X12_litBits (d := d - 1) (by omega) hc16) (by omega) ?_
    cases hf
    exact x_iret hP rfl dX12_count_164
  replace hf := p_f c15 hf
  by_cases c18 : x1 = 7
  · refine x_tswE hP dX12_count_7 c18 (by decide) (by decide) (off := 158) rfl (tgt := 165) (by decide) ?_
    replace hf := p_t c18 hf
    refine x_aload_n hP dX12_count_165 rfl ?_
    obtain ⟨v20, hc19, hf⟩ := b_bd hf
    refine y_cvi hP oX12_homeBits lX12_462 [] [] rfl rfl rfl lay67 dX12_count_166 (t_X12_homeBits (d := d - 1) (by omega) hc19) (by omega) ?_
    cases hf
    exact x_iret hP rfl dX12_count_169
  replace hf := p_f c18 hf
  by_cases c21 : x1 = 8
  · refine x_tswE hP dX12_count_7 c21 (by decide) (by decide) (off := 163) rfl (tgt := 170) (by decide) ?_
    replace hf := p_t c21 hf
    refine x_aload_n hP dX12_count_170 rfl ?_
    refine x_getI hP fX12_184 lay67 dX12_count_171 ?_
    cases hf
    exact x_iret hP rfl dX12_count_174
  replace hf := p_f c21 hf
  by_cases c22 : x1 = 9
  · refine x_tswE hP dX12_count_7 c22 (by decide) (by decide) (off := 168) rfl (tgt := 175) (by decide) ?_
    replace hf := p_t c22 hf
    refine x_aload_n hP dX12_count_175 rfl ?_
    refine x_getI hP fX12_269 lay67 dX12_count_176 ?_
    cases hf
    exact x_iret hP rfl dX12_count_179
  replace hf := p_f c22 hf
  by_cases c23 : x1 = 10
  · refine x_tswE hP dX12_count_7 c23 (by decide) (by decide) (off := 173) rfl (tgt := 180) (by decide) ?_
    replace hf := p_t c23 hf
    refine x_aload_n hP dX12_count_180 rfl ?_
    refine x_getI hP fX12_272 lay67 dX12_count_181 ?_
    cases hf
    exact x_iret hP rfl dX12_count_184
  replace hf := p_f c23 hf
  by_cases c24 : x1 = 11
  · refine x_tswE hP dX12_count_7 c24 (by decide) (by decide) (off := 178) rfl (tgt := 185) (by decide) ?_
    replace hf := p_t c24 hf
    refine x_aload_n hP dX12_count_185 rfl ?_
    refine x_getA hP fX12_164 lay67 (r := 116) rfl dX12_count_186 ?_
    refine x_iconst hP dX12_count_189 (v := 0) rfl ?_
    obtain ⟨v25, hiv25, hv25, hf⟩ := b_ag hf
    refine y_zld hP lay116 hiv25 hv25 dX12_count_190 ?_
    obtain ⟨t26, het26, hf⟩ := b_lt hf
    have hj26 : P 199 [some (.ref 67), none, none, none] [.int t26] LAY M2 := by
      refine x_aload_n hP dX12_count_199 rfl ?_
      refine x_getA hP fX12_164 lay67 (r := 116) rfl dX12_count_200 ?_
      refine x_iconst hP dX12_count_203 (v := 1) rfl ?_
      obtain ⟨v28, hiv28, hv28, hf⟩ := b_ag hf
      refine y_zld hP lay116 hiv28 hv28 dX12_count_204 ?_
      obtain ⟨t29, het29, hf⟩ := b_lt hf
      have hj29 : P 213 [some (.ref 67), none, none, none] [.int t29, .int t26] LAY M2 := by
        refine x_iadd hP dX12_count_213 ?_
        refine x_aload_n hP dX12_count_214 rfl ?_
        refine x_getA hP fX12_164 lay67 (r := 116) rfl dX12_count_215 ?_
        refine x_iconst hP dX12_count_218 (v := 2) rfl ?_
        obtain ⟨v31, hiv31, hv31, hf⟩ := b_ag hf
        refine y_zld hP lay116 hiv31 hv31 dX12_count_219 ?_
        refine x_if_eq hP dX12_count_220 (tgt := 227) (by decide) (fun c32 => ?_) (fun c32 => ?_)
        · replace hf := p_t c32 hf
          refine x_iconst hP dX12_count_227 (v := 0) rfl ?_
          refine x_iadd hP dX12_count_228 ?_
          cases hf
          exact x_iret hP rfl dX12_count_229
        · replace hf := p_f c32 hf
          refine x_iconst hP dX12_count_223 (v := 1) rfl ?_
          refine x_goto hP dX12_count_224 (tgt := 228) (by decide) ?_
          refine x_iadd hP dX12_count_228 ?_
          cases hf
          exact x_iret hP rfl dX12_count_229
      clear hf
      have hf := het29
      clear het29
      refine x_if_eq hP dX12_count_205 (tgt := 212) (by decide) (fun c30 => ?_) (fun c30 => ?_)
      · replace hf := e_t c30 hf
        refine x_iconst hP dX12_count_212 (v := 0) rfl ?_
        refine x_drop hP [some (.ref 67), none, none, none] (And.intro rfl trivial) ?_
        subst hf
        exact hj29
      · replace hf := e_f c30 hf
        refine x_iconst hP dX12_count_208 (v := 1) rfl ?_
        refine x_goto hP dX12_count_209 (tgt := 213) (by decide) ?_
        refine x_drop hP [some (.ref 67), none, none, none] (And.intro rfl trivial) ?_
        subst hf
        exact hj29
    clear hf
    have hf := het26
    clear het26
    refine x_if_eq hP dX12_count_191 (tgt := 198) (by decide) (fun c27 => ?_) (fun c27 => ?_)
    · replace hf := e_t c27 hf
      refine x_iconst hP dX12_count_198 (v := 0) rfl ?_
      refine x_drop hP [some (.ref 67), none, none, none] (And.intro rfl trivial) ?_
      subst hf
      exact hj26
    · replace hf := e_f c27 hf
      refine x_iconst hP dX12_count_194 (v := 1) rfl ?_
      refine x_goto hP dX12_count_195 (tgt := 199) (by decide) ?_
      refine x_drop hP [some (.ref 67), none, none, none] (And.intro rfl trivial) ?_
      subst hf
      exact hj26
  replace hf := p_f c24 hf
  by_cases c33 : x1 = 12
  · refine x_tswE hP dX12_count_7 c33 (by decide) (by decide) (off := 223) rfl (tgt := 230) (by decide) ?_
    replace hf := p_t c33 hf
    refine x_aload_n hP dX12_count_230 rfl ?_
    obtain ⟨v35, hc34, hf⟩ := b_bd hf
    refine y_cvi hP oX12_isDraught lX12_382 [] [] rfl rfl rfl lay67 dX12_count_231 (t_X12_isDraught (d := d - 1) (by omega) hc34) (by omega) ?_
    refine x_if_eq hP dX12_count_234 (tgt := 241) (by decide) (fun c36 => ?_) (fun c36 => ?_)
    · replace hf := p_t c36 hf
      refine x_iconst hP dX12_count_241 (v := 0) rfl ?_
      cases hf
      exact x_iret hP rfl dX12_count_242
    · replace hf := p_f c36 hf
      refine x_iconst hP dX12_count_237 (v := 1) rfl ?_
      refine x_goto hP dX12_count_238 (tgt := 242) (by decide) ?_
      cases hf
      exact x_iret hP rfl dX12_count_242
  replace hf := p_f c33 hf
  by_cases c37 : x1 = 13
  · refine x_tswE hP dX12_count_7 c37 (by decide) (by decide) (off := 236) rfl (tgt := 243) (by decide) ?_
    replace hf := p_t c37 hf
    refine x_aload_n hP dX12_count_243 rfl ?_
    refine x_bipush hP dX12_count_244 (v := 6) rfl ?_
    refine x_bipush hP dX12_count_246 (v := 6) rfl ?_
    obtain ⟨v39, hc38, hf⟩ := b_bd hf
    refine y_cvi hP oX12_sumNow lX12_471 [.int (6 : Int32), .int (6 : Int32)] [] rfl rfl rfl lay67 dX12_count_248 (t_X12_sumNow (d := d - 1) (by omega) hc38) (by omega) ?_
    cases hf
    exact x_iret hP rfl dX12_count_251
  replace hf := p_f c37 hf
  by_cases c40 : x1 = 14
  · refine x_tswE hP dX12_count_7 c40 (by decide) (by decide) (off := 245) rfl (tgt := 252) (by decide) ?_
    replace hf := p_t c40 hf
    refine x_aload_n hP dX12_count_252 rfl ?_
    refine x_bipush hP dX12_count_253 (v := 36) rfl ?_
    refine x_iconst hP dX12_count_255 (v := 5) rfl ?_
    obtain ⟨v42, hc41, hf⟩ := b_bd hf
    refine y_cvi hP oX12_sumNow lX12_471 [.int (36 : Int32), .int (5 : Int32)] [] rfl rfl rfl lay67 dX12_count_256 (t_X12_sumNow (d := d - 1) (by omega) hc41) (by omega) ?_
    cases hf
    exact x_iret hP rfl dX12_count_259
  replace hf := p_f c40 hf
  by_cases c43 : x1 = 15
  · refine x_tswE hP dX12_count_7 c43 (by decide) (by decide) (off := 253) rfl (tgt := 260) (by decide) ?_
    replace hf := p_t c43 hf
    refine x_iconst hP dX12_count_260 (v := 0) rfl ?_
    refine x_istore_n hP (ls2 := [some (.ref 67), some (.int x1), some (.int (0 : Int32)), some (.int (0 : Int32))]) dX12_count_261 rfl rfl rfl ?_
    refine x_drop hP [some (.ref 67), none, some (.int (0 : Int32)), some (.int (0 : Int32))] (And.intro rfl (And.intro rfl (And.intro rfl trivial))) ?_
    obtain ⟨t52, hl53, hf⟩ := b_bd hf
    refine t_X12_count_L262 hd hP _ _ _ _ _ hl53 ?_
    refine x_iload_n hP dX12_count_295 rfl ?_
    cases hf
    exact x_iret hP rfl dX12_count_296
  replace hf := p_f c43 hf
  by_cases c54 : x1 = 16
  · refine x_tswE hP dX12_count_7 c54 (by decide) (by decide) (off := 290) rfl (tgt := 297) (by decide) ?_
    replace hf := p_t c54 hf
    refine x_aload_n hP dX12_count_297 rfl ?_
    refine x_bipush hP dX12_count_298 (v := 18) rfl ?_
    refine x_bipush hP dX12_count_300 (v := 6) rfl ?_
    obtain ⟨v56, hc55, hf⟩ := b_bd hf
    refine y_cvi hP oX12_sumNow lX12_471 [.int (18 : Int32), .int (6 : Int32)] [] rfl rfl rfl lay67 dX12_count_302 (t_X12_sumNow (d := d - 1) (by omega) hc55) (by omega) ?_
    cases hf
    exact x_iret hP rfl dX12_count_305
  replace hf := p_f c54 hf
  by_cases c57 : x1 = 17
  · refine x_tswE hP dX12_count_7 c57 (by decide) (by decide) (off := 299) rfl (tgt := 306) (by decide) ?_
    replace hf := p_t c57 hf
    refine x_aload_n hP dX12_count_306 rfl ?_
    obtain ⟨t59, hc58, hf⟩ := b_bd hf
    refine y_cvi hP oX12_litBits lX12_432 [] [] rfl rfl rfl lay67 dX12_count_307 (t_X12_litBits (d := d - 1) (by omega) hc58) (by omega) ?_
    obtain ⟨v61, hc60, hf⟩ := b_bd hf
    refine y_csi hP oX12_bits lX12_435 [.int t59.1] [] rfl rfl rfl dX12_count_310 (t_X12_bits (d := d - 1) (by omega) hc60) (by omega) ?_
    cases hf
    exact x_iret hP rfl dX12_count_313
  replace hf := p_f c57 hf
  by_cases c62 : x1 = 18
  · refine x_tswE hP dX12_count_7 c62 (by decide) (by decide) (off := 307) rfl (tgt := 314) (by decide) ?_
    replace hf := p_t c62 hf
    refine x_iconst hP dX12_count_314 (v := 0) rfl ?_
    refine x_istore_n hP (ls2 := [some (.ref 67), some (.int x1), some (.int (0 : Int32)), some (.int (0 : Int32))]) dX12_count_315 rfl rfl rfl ?_
    refine x_drop hP [some (.ref 67), none, some (.int (0 : Int32)), some (.int (0 : Int32))] (And.intro rfl (And.intro rfl (And.intro rfl trivial))) ?_
    obtain ⟨t68, hl69, hf⟩ := b_bd hf
    refine t_X12_count_L316 hd hP _ _ _ _ _ hl69 ?_
    refine x_iload_n hP dX12_count_349 rfl ?_
    cases hf
    exact x_iret hP rfl dX12_count_350
  replace hf := p_f c62 hf
  by_cases c70 : x1 = 19
  · refine x_tswE hP dX12_count_7 c70 (by decide) (by decide) (off := 344) rfl (tgt := 351) (by decide) ?_
    replace hf := p_t c70 hf
    refine x_aload_n hP dX12_count_351 rfl ?_
    obtain ⟨v72, hc71, hf⟩ := b_bd hf
    refine y_cvi hP oX12_homeBits lX12_462 [] [] rfl rfl rfl lay67 dX12_count_352 (t_X12_homeBits (d := d - 1) (by omega) hc71) (by omega) ?_
    obtain ⟨v74, hc73, hf⟩ := b_bd hf
    refine y_csi hP oX12_bits lX12_435 [.int v72] [] rfl rfl rfl dX12_count_355 (t_X12_bits (d := d - 1) (by omega) hc73) (by omega) ?_
    cases hf
    exact x_iret hP rfl dX12_count_358
  replace hf := p_f c70 hf
  by_cases c75 : x1 = 20
  · refine x_tswE hP dX12_count_7 c75 (by decide) (by decide) (off := 352) rfl (tgt := 359) (by decide) ?_
    replace hf := p_t c75 hf
    refine x_iconst hP dX12_count_359 (v := 0) rfl ?_
    refine x_istore_n hP (ls2 := [some (.ref 67), some (.int x1), some (.int (0 : Int32)), some (.int (0 : Int32))]) dX12_count_360 rfl rfl rfl ?_
    refine x_drop hP [some (.ref 67), none, some (.int (0 : Int32)), some (.int (0 : Int32))] (And.intro rfl (And.intro rfl (And.intro rfl trivial))) ?_
    obtain ⟨t82, hl83, hf⟩ := b_bd hf
    refine t_X12_count_L361 hd hP _ _ _ _ _ hl83 ?_
    refine x_iload_n hP dX12_count_388 rfl ?_
    cases hf
    exact x_iret hP rfl dX12_count_389
  replace hf := p_f c75 hf
  refine x_tswD hP dX12_count_7 [0, 1, 2, 3, 4, 5, 6, 7, 8, 9, 10, 11, 12, 13, 14, 15, 16, 17, 18, 19, 20] (And.intro (neI c3) (And.intro (neI c5) (And.intro (neI c7) (And.intro (neI c9) (And.intro (neI c11) (And.intro (neI c13) (And.intro (neI c15) (And.intro (neI c18) (And.intro (neI c21) (And.intro (neI c22) (And.intro (neI c23) (And.intro (neI c24) (And.intro (neI c33) (And.intro (neI c37) (And.intro (neI c40) (And.intro (neI c43) (And.intro (neI c54) (And.intro (neI c57) (And.intro (neI c62) (And.intro (neI c70) (And.intro (neI c75) trivial))))))))))))))))))))) (by decide) (by decide) (tgt := 390) (by decide) ?_
  refine x_iconst hP dX12_count_390 (v := (-1)) rfl ?_
  cases hf
  exact x_iret hP rfl dX12_count_391

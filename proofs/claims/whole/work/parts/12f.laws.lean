-- by program: wip/whole/gen/build_parts.py
def f_X2_run_L8 (l0 : Nat) (t1 : Nat) (k : Mem → Option (Int32 × Mem)) : Nat → Int32 → Int32 → Int32 → Mem → Option (Int32 × Mem)
  | 0, _, _, _, _ => none
  | fu + 1, l3, l4, l5, M =>
    if (407 : Int32) ≤ l5 then
      k M
    else
      if l4 < 0 then
        k M
      else
        if M.1 t1 9 ≤ l4 then
          k M
        else
          (ag M (t1 + 9) 407 l4).bind fun v4 =>
          lt (v4 >>> ((14 : Int32) &&& 31) : Int32) fun v5 =>
          (ag M (t1 + 9) 407 l4).bind fun v6 =>
          lt (v6 &&& (16383 : Int32) : Int32) fun v7 =>
          lt (l4 + 1 : Int32) fun v8 =>
          if v5 = (3 : Int32) then
            if l3 ≤ 0 then
              some ((0 : Int32), M)
            else
              (ag M (l0 + 2) 24 (l3 - (1 : Int32))).bind fun v11 =>
              some (v11, M)
          else
            lt (
              if (24 : Int32) ≤ l3 then
                some ((0 : Int32), M)
              else
                lt (
                  (
                    if v5 = 0 then
                      some v7
                    else
                      (ag M (l0 + 1) 9 v7).bind fun v17 =>
                      some v17
                  ).bind fun t15 =>
                  (pg M (l0 + 2) 24 l3 t15).bind fun M18 =>
                  lt (l3 + 1 : Int32) fun v19 =>
                  lt (l5 + 1 : Int32) fun v20 =>
                  f_X2_run_L8 l0 t1 k fu v19 v8 v20 M18
                  ) fun j14 =>
                if v5 = (1 : Int32) then
                  if v7 < (9 : Int32) then
                    j14
                  else
                    some ((0 : Int32), M)
                else
                  j14
              ) fun j12 =>
            if v5 = 0 then
              j12
            else
              if v5 = (1 : Int32) then
                j12
              else
                if l3 < (2 : Int32) then
                  some ((0 : Int32), M)
                else
                  lt (
                    lt (l3 + (-1) : Int32) fun v27 =>
                    (ag M (l0 + 2) 24 (v27 - (1 : Int32))).bind fun v28 =>
                    (ag M (l0 + 2) 24 v27).bind fun v29 =>
                    if v5 = 42 then
                      (pg M (l0 + 2) 24 (v27 - (1 : Int32)) (v28 * v29)).bind fun M31 =>
                      lt (l5 + 1 : Int32) fun v32 =>
                      f_X2_run_L8 l0 t1 k fu v27 v8 v32 M31
                    else
                    if v5 = 43 then
                      (pg M (l0 + 2) 24 (v27 - (1 : Int32)) (v28 + v29)).bind fun M34 =>
                      lt (l5 + 1 : Int32) fun v35 =>
                      f_X2_run_L8 l0 t1 k fu v27 v8 v35 M34
                    else
                    if v5 = 45 then
                      (pg M (l0 + 2) 24 (v27 - (1 : Int32)) (v28 - v29)).bind fun M37 =>
                      lt (l5 + 1 : Int32) fun v38 =>
                      f_X2_run_L8 l0 t1 k fu v27 v8 v38 M37
                    else
                    if v5 = 47 then
                      (
                        if v29 = 0 then
                          some (0 : Int32)
                        else
                          (dv v28 v29).bind fun v42 =>
                          some v42
                      ).bind fun t40 =>
                      (pg M (l0 + 2) 24 (v27 - (1 : Int32)) t40).bind fun M43 =>
                      lt (l5 + 1 : Int32) fun v44 =>
                      f_X2_run_L8 l0 t1 k fu v27 v8 v44 M43
                    else
                    lt (v27 + (-1) : Int32) fun v45 =>
                    lt (
                      if v29 ≤ v28 then
                        v7
                      else
                        v8
                     : Int32) fun t46 =>
                    lt (l5 + 1 : Int32) fun v48 =>
                    f_X2_run_L8 l0 t1 k fu v45 t46 v48 M
                    ) fun j26 =>
                  if v5 = (47 : Int32) then
                    (ag M (l0 + 2) 24 (l3 - (1 : Int32))).bind fun v50 =>
                    if v50 = 0 then
                      some ((0 : Int32), M)
                    else
                      j26
                  else
                    j26
def f_X2_run (l0 : Nat) (t1 : Nat) (x2 : Int32) (M : Mem) : Option (Int32 × Mem) :=
  f_X2_run_L8 l0 t1 (fun t52 =>
      some ((0 : Int32), t52)
    ) FU (0 : Int32) x2 (0 : Int32) M
set_option maxHeartbeats 1000000 in
set_option maxRecDepth 20000 in
theorem t_X2_run_L8 {g : GG} {d : Nat} {P : PT} {r : Int32} {M' : Mem} (hd : 1 ≤ d) {l0 : Nat} (hl0 : isL l0) {t1 : Nat} (ht1 : isT t1)  (hP : IsM g iX2_run d (some (some (.int r), LAY, M')) P) {k : Mem → Option (Int32 × Mem)} (hk : ∀ t : Mem, k t = some (r, M') → P 326 [none, none, none, none, none, none, none, none, none, none] [] LAY t) : ∀ (fu : Nat) (l3 : Int32) (l4 : Int32) (l5 : Int32) (M : Mem), f_X2_run_L8 l0 t1 k fu l3 l4 l5 M = some (r, M') → P 8 [some (.ref l0), some (.ref t1), none, some (.int l3), some (.int l4), some (.int l5), none, none, none, none] [] LAY M := by
  have hd1 : 1 ≤ d := by omega
  intro fu
  induction fu with
  | zero => intro l3 l4 l5 M hf; simp [f_X2_run_L8] at hf
  | succ fu ih =>
    intro l3 l4 l5 M hf
    rw [f_X2_run_L8] at hf
    refine x_iload hP dX2_run_8 rfl ?_
    refine x_sipush hP dX2_run_10 (v := 407) rfl ?_
    refine x_icmp_ge hP dX2_run_13 (tgt := 326) (by decide) (fun c1 => ?_) (fun c1 => ?_)
    · replace hf := p_t c1 hf
      refine x_drop hP [none, none, none, none, none, none, none, none, none, none] trivial ?_
      exact hk _ hf
    · replace hf := p_f c1 hf
      refine x_iload hP dX2_run_16 rfl ?_
      refine x_if_lt hP dX2_run_18 (tgt := 326) (by decide) (fun c2 => ?_) (fun c2 => ?_)
      · replace hf := p_t c2 hf
        refine x_drop hP [none, none, none, none, none, none, none, none, none, none] trivial ?_
        exact hk _ hf
      · replace hf := p_f c2 hf
        refine x_iload hP dX2_run_21 rfl ?_
        refine x_aload_n hP dX2_run_23 rfl ?_
        refine x_getI hP fX2_101 (layT ht1) dX2_run_24 ?_
        refine x_icmp_ge hP dX2_run_27 (tgt := 326) (by decide) (fun c3 => ?_) (fun c3 => ?_)
        · replace hf := p_t c3 hf
          refine x_drop hP [none, none, none, none, none, none, none, none, none, none] trivial ?_
          exact hk _ hf
        · replace hf := p_f c3 hf
          refine x_aload_n hP dX2_run_30 rfl ?_
          refine x_getA hP fX2_104 (layT ht1) (r := t1 + 9) rfl dX2_run_31 ?_
          refine x_iload hP dX2_run_34 rfl ?_
          obtain ⟨v4, hiv4, hv4, hf⟩ := b_ag hf
          refine y_ald hP (layT_9 ht1) hiv4 hv4 dX2_run_36 ?_
          refine x_bipush hP dX2_run_37 (v := 14) rfl ?_
          refine x_ishr hP dX2_run_39 ?_
          obtain ⟨v5, hv5, hf⟩ := b_lt hf
          refine y_nmI hv5 ?_
          refine x_istore hP (ls2 := [some (.ref l0), some (.ref t1), none, some (.int l3), some (.int l4), some (.int l5), some (.int v5), none, none, none]) dX2_run_40 rfl rfl ?_
          refine x_aload_n hP dX2_run_42 rfl ?_
          refine x_getA hP fX2_104 (layT ht1) (r := t1 + 9) rfl dX2_run_43 ?_
          refine x_iload hP dX2_run_46 rfl ?_
          obtain ⟨v6, hiv6, hv6, hf⟩ := b_ag hf
          refine y_ald hP (layT_9 ht1) hiv6 hv6 dX2_run_48 ?_
          refine x_sipush hP dX2_run_49 (v := 16383) rfl ?_
          refine x_iand hP dX2_run_52 ?_
          obtain ⟨v7, hv7, hf⟩ := b_lt hf
          refine y_nmI hv7 ?_
          refine x_istore hP (ls2 := [some (.ref l0), some (.ref t1), none, some (.int l3), some (.int l4), some (.int l5), some (.int v5), some (.int v7), none, none]) dX2_run_53 rfl rfl ?_
          obtain ⟨v8, hv8, hf⟩ := b_lt hf
          refine x_iinc hP (v := v8) (ls2 := [some (.ref l0), some (.ref t1), none, some (.int l3), some (.int v8), some (.int l5), some (.int v5), some (.int v7), none, none]) dX2_run_55 rfl (by rw [hv8]; rfl) rfl rfl ?_
          refine x_iload hP dX2_run_58 rfl ?_
          refine x_iconst hP dX2_run_60 (v := 3) rfl ?_
          refine x_icmp_ne hP dX2_run_61 (tgt := 81) (by decide) (fun c9 => ?_) (fun c9 => ?_)
          · replace hf := p_f c9 hf
            refine x_iload hP dX2_run_81 rfl ?_
            obtain ⟨j12, hj12, hf⟩ := b_lt hf
            have hJj12 : j12 = some (r, M') → P 92 [some (.ref l0), some (.ref t1), none, some (.int l3), some (.int v8), some (.int l5), some (.int v5), some (.int v7), none, none] [] LAY M := by
              intro hf
              rw [hj12] at hf
              try dsimp only at hf
              refine x_iload_n hP dX2_run_92 rfl ?_
              refine x_bipush hP dX2_run_93 (v := 24) rfl ?_
              refine x_icmp_ge hP dX2_run_95 (tgt := 111) (by decide) (fun c13 => ?_) (fun c13 => ?_)
              · replace hf := p_t c13 hf
                refine x_iconst hP dX2_run_111 (v := 0) rfl ?_
                cases hf
                exact x_iret hP rfl dX2_run_112
              · replace hf := p_f c13 hf
                refine x_iload hP dX2_run_98 rfl ?_
                refine x_iconst hP dX2_run_100 (v := 1) rfl ?_
                obtain ⟨j14, hj14, hf⟩ := b_lt hf
                have hJj14 : j14 = some (r, M') → P 113 [some (.ref l0), some (.ref t1), none, some (.int l3), some (.int v8), some (.int l5), some (.int v5), some (.int v7), none, none] [] LAY M := by
                  intro hf
                  rw [hj14] at hf
                  try dsimp only at hf
                  refine x_aload_n hP dX2_run_113 rfl ?_
                  refine x_getA hP fX2_15 (layL hl0) (r := l0 + 2) rfl dX2_run_114 ?_
                  refine x_iload_n hP dX2_run_117 rfl ?_
                  refine x_iload hP dX2_run_118 rfl ?_
                  obtain ⟨t15, het15, hf⟩ := b_bd hf
                  have hj15 : P 135 [some (.ref l0), some (.ref t1), none, some (.int l3), some (.int v8), some (.int l5), none, none, none, none] [.int t15, .int l3, .ref (l0 + 2)] LAY M := by
                    obtain ⟨M18, hiM18, hM18, hf⟩ := b_pg hf
                    refine y_ast hP (layL_2 hl0) hiM18 hM18 dX2_run_135 ?_
                    obtain ⟨v19, hv19, hf⟩ := b_lt hf
                    refine x_iinc hP (v := v19) (ls2 := [some (.ref l0), some (.ref t1), none, some (.int v19), some (.int v8), some (.int l5), none, none, none, none]) dX2_run_136 rfl (by rw [hv19]; rfl) rfl rfl ?_
                    refine x_goto hP dX2_run_139 (tgt := 320) (by decide) ?_
                    obtain ⟨v20, hv20, hf⟩ := b_lt hf
                    refine x_iinc hP (v := v20) (ls2 := [some (.ref l0), some (.ref t1), none, some (.int v19), some (.int v8), some (.int v20), none, none, none, none]) dX2_run_320 rfl (by rw [hv20]; rfl) rfl rfl ?_
                    refine x_goto hP dX2_run_323 (tgt := 8) (by decide) ?_
                    refine x_drop hP [some (.ref l0), some (.ref t1), none, some (.int v19), some (.int v8), some (.int v20), none, none, none, none] (And.intro rfl (And.intro rfl (And.intro rfl (And.intro rfl (And.intro rfl trivial))))) ?_
                    exact ih _ _ _ _ hf
                  clear hf
                  have hf := het15
                  clear het15
                  refine x_if_ne hP dX2_run_120 (tgt := 128) (by decide) (fun c16 => ?_) (fun c16 => ?_)
                  · replace hf := p_f c16 hf
                    refine x_aload_n hP dX2_run_128 rfl ?_
                    refine x_getA hP fX2_11 (layL hl0) (r := l0 + 1) rfl dX2_run_129 ?_
                    refine x_iload hP dX2_run_132 rfl ?_
                    obtain ⟨v17, hiv17, hv17, hf⟩ := b_ag hf
                    refine y_ald hP (layL_1 hl0) hiv17 hv17 dX2_run_134 ?_
                    refine x_drop hP [some (.ref l0), some (.ref t1), none, some (.int l3), some (.int v8), some (.int l5), none, none, none, none] (And.intro rfl (And.intro rfl (And.intro rfl (And.intro rfl (And.intro rfl trivial))))) ?_
                    cases hf
                    exact hj15
                  · replace hf := p_t c16 hf
                    refine x_iload hP dX2_run_123 rfl ?_
                    refine x_goto hP dX2_run_125 (tgt := 135) (by decide) ?_
                    refine x_drop hP [some (.ref l0), some (.ref t1), none, some (.int l3), some (.int v8), some (.int l5), none, none, none, none] (And.intro rfl (And.intro rfl (And.intro rfl (And.intro rfl (And.intro rfl trivial))))) ?_
                    cases hf
                    exact hj15
                clear hj14
                refine x_icmp_ne hP dX2_run_101 (tgt := 113) (by decide) (fun c21 => ?_) (fun c21 => ?_)
                · replace hf := p_f c21 hf
                  refine x_drop hP [some (.ref l0), some (.ref t1), none, some (.int l3), some (.int v8), some (.int l5), some (.int v5), some (.int v7), none, none] (And.intro rfl (And.intro rfl (And.intro rfl (And.intro rfl (And.intro rfl (And.intro rfl (And.intro rfl trivial))))))) ?_
                  exact hJj14  hf
                · replace hf := p_t c21 hf
                  refine x_iload hP dX2_run_104 rfl ?_
                  refine x_bipush hP dX2_run_106 (v := 9) rfl ?_
                  refine x_icmp_lt hP dX2_run_108 (tgt := 113) (by decide) (fun c22 => ?_) (fun c22 => ?_)
                  · replace hf := p_t c22 hf
                    refine x_drop hP [some (.ref l0), some (.ref t1), none, some (.int l3), some (.int v8), some (.int l5), some (.int v5), some (.int v7), none, none] (And.intro rfl (And.intro rfl (And.intro rfl (And.intro rfl (And.intro rfl (And.intro rfl (And.intro rfl trivial))))))) ?_
                    exact hJj14  hf
                  · replace hf := p_f c22 hf
                    refine x_iconst hP dX2_run_111 (v := 0) rfl ?_
                    cases hf
                    exact x_iret hP rfl dX2_run_112
            clear hj12
            refine x_if_eq hP dX2_run_83 (tgt := 92) (by decide) (fun c23 => ?_) (fun c23 => ?_)
            · replace hf := p_t c23 hf
              refine x_drop hP [some (.ref l0), some (.ref t1), none, some (.int l3), some (.int v8), some (.int l5), some (.int v5), some (.int v7), none, none] (And.intro rfl (And.intro rfl (And.intro rfl (And.intro rfl (And.intro rfl (And.intro rfl (And.intro rfl trivial))))))) ?_
              exact hJj12  hf
            · replace hf := p_f c23 hf
              refine x_iload hP dX2_run_86 rfl ?_
              refine x_iconst hP dX2_run_88 (v := 1) rfl ?_
              refine x_icmp_ne hP dX2_run_89 (tgt := 142) (by decide) (fun c24 => ?_) (fun c24 => ?_)
              · replace hf := p_f c24 hf
                refine x_iload_n hP dX2_run_142 rfl ?_
                refine x_iconst hP dX2_run_143 (v := 2) rfl ?_
                refine x_icmp_lt hP dX2_run_144 (tgt := 165) (by decide) (fun c25 => ?_) (fun c25 => ?_)
                · replace hf := p_t c25 hf
                  refine x_iconst hP dX2_run_165 (v := 0) rfl ?_
                  cases hf
                  exact x_iret hP rfl dX2_run_166
                · replace hf := p_f c25 hf
                  refine x_iload hP dX2_run_147 rfl ?_
                  refine x_bipush hP dX2_run_149 (v := 47) rfl ?_
                  obtain ⟨j26, hj26, hf⟩ := b_lt hf
                  have hJj26 : j26 = some (r, M') → P 167 [some (.ref l0), some (.ref t1), none, some (.int l3), some (.int v8), some (.int l5), some (.int v5), some (.int v7), none, none] [] LAY M := by
                    intro hf
                    rw [hj26] at hf
                    try dsimp only at hf
                    obtain ⟨v27, hv27, hf⟩ := b_lt hf
                    refine x_iinc hP (v := v27) (ls2 := [some (.ref l0), some (.ref t1), none, some (.int v27), some (.int v8), some (.int l5), some (.int v5), some (.int v7), none, none]) dX2_run_167 rfl (by rw [hv27]; rfl) rfl rfl ?_
                    refine x_aload_n hP dX2_run_170 rfl ?_
                    refine x_getA hP fX2_15 (layL hl0) (r := l0 + 2) rfl dX2_run_171 ?_
                    refine x_iload_n hP dX2_run_174 rfl ?_
                    refine x_iconst hP dX2_run_175 (v := 1) rfl ?_
                    refine x_isub hP dX2_run_176 ?_
                    obtain ⟨v28, hiv28, hv28, hf⟩ := b_ag hf
                    refine y_ald hP (layL_2 hl0) hiv28 hv28 dX2_run_177 ?_
                    refine x_istore hP (ls2 := [some (.ref l0), some (.ref t1), none, some (.int v27), some (.int v8), some (.int l5), some (.int v5), some (.int v7), some (.int v28), none]) dX2_run_178 rfl rfl ?_
                    refine x_aload_n hP dX2_run_180 rfl ?_
                    refine x_getA hP fX2_15 (layL hl0) (r := l0 + 2) rfl dX2_run_181 ?_
                    refine x_iload_n hP dX2_run_184 rfl ?_
                    obtain ⟨v29, hiv29, hv29, hf⟩ := b_ag hf
                    refine y_ald hP (layL_2 hl0) hiv29 hv29 dX2_run_185 ?_
                    refine x_istore hP (ls2 := [some (.ref l0), some (.ref t1), none, some (.int v27), some (.int v8), some (.int l5), some (.int v5), some (.int v7), some (.int v28), some (.int v29)]) dX2_run_186 rfl rfl ?_
                    refine x_iload hP dX2_run_188 rfl ?_
                    by_cases c30 : v5 = 42
                    · refine x_tswE hP dX2_run_190 c30 (by decide) (by decide) (off := 70) rfl (tgt := 260) (by decide) ?_
                      replace hf := p_t c30 hf
                      refine x_aload_n hP dX2_run_260 rfl ?_
                      refine x_getA hP fX2_15 (layL hl0) (r := l0 + 2) rfl dX2_run_261 ?_
                      refine x_iload_n hP dX2_run_264 rfl ?_
                      refine x_iconst hP dX2_run_265 (v := 1) rfl ?_
                      refine x_isub hP dX2_run_266 ?_
                      refine x_iload hP dX2_run_267 rfl ?_
                      refine x_iload hP dX2_run_269 rfl ?_
                      refine x_imul hP dX2_run_271 ?_
                      obtain ⟨M31, hiM31, hM31, hf⟩ := b_pg hf
                      refine y_ast hP (layL_2 hl0) hiM31 hM31 dX2_run_272 ?_
                      refine x_goto hP dX2_run_273 (tgt := 320) (by decide) ?_
                      obtain ⟨v32, hv32, hf⟩ := b_lt hf
                      refine x_iinc hP (v := v32) (ls2 := [some (.ref l0), some (.ref t1), none, some (.int v27), some (.int v8), some (.int v32), some (.int v5), some (.int v7), some (.int v28), some (.int v29)]) dX2_run_320 rfl (by rw [hv32]; rfl) rfl rfl ?_
                      refine x_goto hP dX2_run_323 (tgt := 8) (by decide) ?_
                      refine x_drop hP [some (.ref l0), some (.ref t1), none, some (.int v27), some (.int v8), some (.int v32), none, none, none, none] (And.intro rfl (And.intro rfl (And.intro rfl (And.intro rfl (And.intro rfl trivial))))) ?_
                      exact ih _ _ _ _ hf
                    replace hf := p_f c30 hf
                    by_cases c33 : v5 = 43
                    · refine x_tswE hP dX2_run_190 c33 (by decide) (by decide) (off := 38) rfl (tgt := 228) (by decide) ?_
                      replace hf := p_t c33 hf
                      refine x_aload_n hP dX2_run_228 rfl ?_
                      refine x_getA hP fX2_15 (layL hl0) (r := l0 + 2) rfl dX2_run_229 ?_
                      refine x_iload_n hP dX2_run_232 rfl ?_
                      refine x_iconst hP dX2_run_233 (v := 1) rfl ?_
                      refine x_isub hP dX2_run_234 ?_
                      refine x_iload hP dX2_run_235 rfl ?_
                      refine x_iload hP dX2_run_237 rfl ?_
                      refine x_iadd hP dX2_run_239 ?_
                      obtain ⟨M34, hiM34, hM34, hf⟩ := b_pg hf
                      refine y_ast hP (layL_2 hl0) hiM34 hM34 dX2_run_240 ?_
                      refine x_goto hP dX2_run_241 (tgt := 320) (by decide) ?_
                      obtain ⟨v35, hv35, hf⟩ := b_lt hf
                      refine x_iinc hP (v := v35) (ls2 := [some (.ref l0), some (.ref t1), none, some (.int v27), some (.int v8), some (.int v35), some (.int v5), some (.int v7), some (.int v28), some (.int v29)]) dX2_run_320 rfl (by rw [hv35]; rfl) rfl rfl ?_
                      refine x_goto hP dX2_run_323 (tgt := 8) (by decide) ?_
                      refine x_drop hP [some (.ref l0), some (.ref t1), none, some (.int v27), some (.int v8), some (.int v35), none, none, none, none] (And.intro rfl (And.intro rfl (And.intro rfl (And.intro rfl (And.intro rfl trivial))))) ?_
                      exact ih _ _ _ _ hf
                    replace hf := p_f c33 hf
                    by_cases c36 : v5 = 45
                    · refine x_tswE hP dX2_run_190 c36 (by decide) (by decide) (off := 54) rfl (tgt := 244) (by decide) ?_
                      replace hf := p_t c36 hf
                      refine x_aload_n hP dX2_run_244 rfl ?_
                      refine x_getA hP fX2_15 (layL hl0) (r := l0 + 2) rfl dX2_run_245 ?_
                      refine x_iload_n hP dX2_run_248 rfl ?_
                      refine x_iconst hP dX2_run_249 (v := 1) rfl ?_
                      refine x_isub hP dX2_run_250 ?_
                      refine x_iload hP dX2_run_251 rfl ?_
                      refine x_iload hP dX2_run_253 rfl ?_
                      refine x_isub hP dX2_run_255 ?_
                      obtain ⟨M37, hiM37, hM37, hf⟩ := b_pg hf
                      refine y_ast hP (layL_2 hl0) hiM37 hM37 dX2_run_256 ?_
                      refine x_goto hP dX2_run_257 (tgt := 320) (by decide) ?_
                      obtain ⟨v38, hv38, hf⟩ := b_lt hf
                      refine x_iinc hP (v := v38) (ls2 := [some (.ref l0), some (.ref t1), none, some (.int v27), some (.int v8), some (.int v38), some (.int v5), some (.int v7), some (.int v28), some (.int v29)]) dX2_run_320 rfl (by rw [hv38]; rfl) rfl rfl ?_
                      refine x_goto hP dX2_run_323 (tgt := 8) (by decide) ?_
                      refine x_drop hP [some (.ref l0), some (.ref t1), none, some (.int v27), some (.int v8), some (.int v38), none, none, none, none] (And.intro rfl (And.intro rfl (And.intro rfl (And.intro rfl (And.intro rfl trivial))))) ?_
                      exact ih _ _ _ _ hf
                    replace hf := p_f c36 hf
                    by_cases c39 : v5 = 47
                    · refine x_tswE hP dX2_run_190 c39 (by decide) (by decide) (off := 86) rfl (tgt := 276) (by decide) ?_
                      replace hf := p_t c39 hf
                      refine x_aload_n hP dX2_run_276 rfl ?_
                      refine x_getA hP fX2_15 (layL hl0) (r := l0 + 2) rfl dX2_run_277 ?_
                      refine x_iload_n hP dX2_run_280 rfl ?_
                      refine x_iconst hP dX2_run_281 (v := 1) rfl ?_
                      refine x_isub hP dX2_run_282 ?_
                      refine x_iload hP dX2_run_283 rfl ?_
                      obtain ⟨t40, het40, hf⟩ := b_bd hf
                      have hj40 : P 297 [some (.ref l0), some (.ref t1), none, some (.int v27), some (.int v8), some (.int l5), none, none, none, none] [.int t40, .int (v27 - (1 : Int32)), .ref (l0 + 2)] LAY M := by
                        obtain ⟨M43, hiM43, hM43, hf⟩ := b_pg hf
                        refine y_ast hP (layL_2 hl0) hiM43 hM43 dX2_run_297 ?_
                        refine x_goto hP dX2_run_298 (tgt := 320) (by decide) ?_
                        obtain ⟨v44, hv44, hf⟩ := b_lt hf
                        refine x_iinc hP (v := v44) (ls2 := [some (.ref l0), some (.ref t1), none, some (.int v27), some (.int v8), some (.int v44), none, none, none, none]) dX2_run_320 rfl (by rw [hv44]; rfl) rfl rfl ?_
                        refine x_goto hP dX2_run_323 (tgt := 8) (by decide) ?_
                        refine x_drop hP [some (.ref l0), some (.ref t1), none, some (.int v27), some (.int v8), some (.int v44), none, none, none, none] (And.intro rfl (And.intro rfl (And.intro rfl (And.intro rfl (And.intro rfl trivial))))) ?_
                        exact ih _ _ _ _ hf
                      clear hf
                      have hf := het40
                      clear het40
                      refine x_if_ne hP dX2_run_285 (tgt := 292) (by decide) (fun c41 => ?_) (fun c41 => ?_)
                      · replace hf := p_f c41 hf
                        refine x_iload hP dX2_run_292 rfl ?_
                        refine x_iload hP dX2_run_294 rfl ?_
                        obtain ⟨v42, hzv42, hv42, hf⟩ := b_dv hf
                        refine y_div hP hzv42 hv42 dX2_run_296 ?_
                        refine x_drop hP [some (.ref l0), some (.ref t1), none, some (.int v27), some (.int v8), some (.int l5), none, none, none, none] (And.intro rfl (And.intro rfl (And.intro rfl (And.intro rfl (And.intro rfl trivial))))) ?_
                        cases hf
                        exact hj40
                      · replace hf := p_t c41 hf
                        refine x_iconst hP dX2_run_288 (v := 0) rfl ?_
                        refine x_goto hP dX2_run_289 (tgt := 297) (by decide) ?_
                        refine x_drop hP [some (.ref l0), some (.ref t1), none, some (.int v27), some (.int v8), some (.int l5), none, none, none, none] (And.intro rfl (And.intro rfl (And.intro rfl (And.intro rfl (And.intro rfl trivial))))) ?_
                        cases hf
                        exact hj40
                    replace hf := p_f c39 hf
                    refine x_tswD hP dX2_run_190 [42, 43, 45, 47] (And.intro (neI c30) (And.intro (neI c33) (And.intro (neI c36) (And.intro (neI c39) trivial)))) (by decide) (by decide) (tgt := 301) (by decide) ?_
                    obtain ⟨v45, hv45, hf⟩ := b_lt hf
                    refine x_iinc hP (v := v45) (ls2 := [some (.ref l0), some (.ref t1), none, some (.int v45), some (.int v8), some (.int l5), some (.int v5), some (.int v7), some (.int v28), some (.int v29)]) dX2_run_301 rfl (by rw [hv45]; rfl) rfl rfl ?_
                    refine x_iload hP dX2_run_304 rfl ?_
                    refine x_iload hP dX2_run_306 rfl ?_
                    obtain ⟨t46, het46, hf⟩ := b_lt hf
                    have hj46 : P 318 [some (.ref l0), some (.ref t1), none, some (.int v45), none, some (.int l5), none, none, none, none] [.int t46] LAY M := by
                      refine x_istore hP (ls2 := [some (.ref l0), some (.ref t1), none, some (.int v45), some (.int t46), some (.int l5), none, none, none, none]) dX2_run_318 rfl rfl ?_
                      obtain ⟨v48, hv48, hf⟩ := b_lt hf
                      refine x_iinc hP (v := v48) (ls2 := [some (.ref l0), some (.ref t1), none, some (.int v45), some (.int t46), some (.int v48), none, none, none, none]) dX2_run_320 rfl (by rw [hv48]; rfl) rfl rfl ?_
                      refine x_goto hP dX2_run_323 (tgt := 8) (by decide) ?_
                      refine x_drop hP [some (.ref l0), some (.ref t1), none, some (.int v45), some (.int t46), some (.int v48), none, none, none, none] (And.intro rfl (And.intro rfl (And.intro rfl (And.intro rfl (And.intro rfl trivial))))) ?_
                      exact ih _ _ _ _ hf
                    clear hf
                    have hf := het46
                    clear het46
                    refine x_icmp_ge hP dX2_run_308 (tgt := 316) (by decide) (fun c47 => ?_) (fun c47 => ?_)
                    · replace hf := e_t c47 hf
                      refine x_iload hP dX2_run_316 rfl ?_
                      refine x_drop hP [some (.ref l0), some (.ref t1), none, some (.int v45), none, some (.int l5), none, none, none, none] (And.intro rfl (And.intro rfl (And.intro rfl (And.intro rfl trivial)))) ?_
                      subst hf
                      exact hj46
                    · replace hf := e_f c47 hf
                      refine x_iload hP dX2_run_311 rfl ?_
                      refine x_goto hP dX2_run_313 (tgt := 318) (by decide) ?_
                      refine x_drop hP [some (.ref l0), some (.ref t1), none, some (.int v45), none, some (.int l5), none, none, none, none] (And.intro rfl (And.intro rfl (And.intro rfl (And.intro rfl trivial)))) ?_
                      subst hf
                      exact hj46
                  clear hj26
                  refine x_icmp_ne hP dX2_run_151 (tgt := 167) (by decide) (fun c49 => ?_) (fun c49 => ?_)
                  · replace hf := p_f c49 hf
                    refine x_drop hP [some (.ref l0), some (.ref t1), none, some (.int l3), some (.int v8), some (.int l5), some (.int v5), some (.int v7), none, none] (And.intro rfl (And.intro rfl (And.intro rfl (And.intro rfl (And.intro rfl (And.intro rfl (And.intro rfl trivial))))))) ?_
                    exact hJj26  hf
                  · replace hf := p_t c49 hf
                    refine x_aload_n hP dX2_run_154 rfl ?_
                    refine x_getA hP fX2_15 (layL hl0) (r := l0 + 2) rfl dX2_run_155 ?_
                    refine x_iload_n hP dX2_run_158 rfl ?_
                    refine x_iconst hP dX2_run_159 (v := 1) rfl ?_
                    refine x_isub hP dX2_run_160 ?_
                    obtain ⟨v50, hiv50, hv50, hf⟩ := b_ag hf
                    refine y_ald hP (layL_2 hl0) hiv50 hv50 dX2_run_161 ?_
                    refine x_if_ne hP dX2_run_162 (tgt := 167) (by decide) (fun c51 => ?_) (fun c51 => ?_)
                    · replace hf := p_f c51 hf
                      refine x_drop hP [some (.ref l0), some (.ref t1), none, some (.int l3), some (.int v8), some (.int l5), some (.int v5), some (.int v7), none, none] (And.intro rfl (And.intro rfl (And.intro rfl (And.intro rfl (And.intro rfl (And.intro rfl (And.intro rfl trivial))))))) ?_
                      exact hJj26  hf
                    · replace hf := p_t c51 hf
                      refine x_iconst hP dX2_run_165 (v := 0) rfl ?_
                      cases hf
                      exact x_iret hP rfl dX2_run_166
              · replace hf := p_t c24 hf
                refine x_drop hP [some (.ref l0), some (.ref t1), none, some (.int l3), some (.int v8), some (.int l5), some (.int v5), some (.int v7), none, none] (And.intro rfl (And.intro rfl (And.intro rfl (And.intro rfl (And.intro rfl (And.intro rfl (And.intro rfl trivial))))))) ?_
                exact hJj12  hf
          · replace hf := p_t c9 hf
            refine x_iload_n hP dX2_run_64 rfl ?_
            refine x_if_le hP dX2_run_65 (tgt := 79) (by decide) (fun c10 => ?_) (fun c10 => ?_)
            · replace hf := p_t c10 hf
              refine x_iconst hP dX2_run_79 (v := 0) rfl ?_
              cases hf
              exact x_iret hP rfl dX2_run_80
            · replace hf := p_f c10 hf
              refine x_aload_n hP dX2_run_68 rfl ?_
              refine x_getA hP fX2_15 (layL hl0) (r := l0 + 2) rfl dX2_run_69 ?_
              refine x_iload_n hP dX2_run_72 rfl ?_
              refine x_iconst hP dX2_run_73 (v := 1) rfl ?_
              refine x_isub hP dX2_run_74 ?_
              obtain ⟨v11, hiv11, hv11, hf⟩ := b_ag hf
              refine y_ald hP (layL_2 hl0) hiv11 hv11 dX2_run_75 ?_
              refine x_goto hP dX2_run_76 (tgt := 80) (by decide) ?_
              cases hf
              exact x_iret hP rfl dX2_run_80
set_option maxHeartbeats 1000000 in
set_option maxRecDepth 20000 in
theorem t_X2_run {g : GG} {d : Nat} (hd : 1 ≤ d) {l0 : Nat} (hl0 : isL l0) {t1 : Nat} (ht1 : isT t1) {x2 : Int32} {M : Mem} {r : Int32} {M' : Mem} (hf : f_X2_run l0 t1 x2 M = some (r, M')) : ExM g d iX2_run [.ref l0, .ref t1, .int x2] LAY M (some (.int r), LAY, M') := by
  have hd1 : 1 ≤ d := by omega
  refine ExM.main pnX2 rfl (ls := [some (.ref l0), some (.ref t1), some (.int x2), none, none, none, none, none, none, none]) rfl ?_
  intro P hP
  rw [f_X2_run] at hf
  refine x_iconst hP dX2_run_0 (v := 0) rfl ?_
  refine x_istore_n hP (ls2 := [some (.ref l0), some (.ref t1), some (.int x2), some (.int (0 : Int32)), none, none, none, none, none, none]) dX2_run_1 rfl rfl rfl ?_
  refine x_iload_n hP dX2_run_2 rfl ?_
  refine x_istore hP (ls2 := [some (.ref l0), some (.ref t1), some (.int x2), some (.int (0 : Int32)), some (.int x2), none, none, none, none, none]) dX2_run_3 rfl rfl ?_
  refine x_iconst hP dX2_run_5 (v := 0) rfl ?_
  refine x_istore hP (ls2 := [some (.ref l0), some (.ref t1), some (.int x2), some (.int (0 : Int32)), some (.int x2), some (.int (0 : Int32)), none, none, none, none]) dX2_run_6 rfl rfl ?_
  refine x_drop hP [some (.ref l0), some (.ref t1), none, some (.int (0 : Int32)), some (.int x2), some (.int (0 : Int32)), none, none, none, none] (And.intro rfl (And.intro rfl (And.intro rfl (And.intro rfl (And.intro rfl trivial))))) ?_
  refine t_X2_run_L8 hd hl0 ht1 hP (fun t52 hf => ?_) _ _ _ _ _ hf
  refine x_iconst hP dX2_run_326 (v := 0) rfl ?_
  cases hf
  exact x_iret hP rfl dX2_run_327
def f_X2_lawOf (l0 : Nat) (x1 : Int32) (n2 : Nat) (x3 : Int32) (x4 : Int32) (M : Mem) : Option (Int32 × Mem) :=
  (rT M n2 0).bind fun t1 =>
  (
    if x4 = (-1 : Int32) then
      some (0 : Int32)
    else
      (ag M (n2 + 5) 5 x4).bind fun v4 =>
      some v4
  ).bind fun t2 =>
  (pg M (l0 + 1) 9 (0 : Int32) t2).bind fun M5 =>
  (ag M5 (t1 + 4) 6 x3).bind fun v6 =>
  (pg M5 (l0 + 1) 9 (1 : Int32) v6).bind fun M7 =>
  (ag M7 (t1 + 5) 6 x3).bind fun v8 =>
  (pg M7 (l0 + 1) 9 (2 : Int32) v8).bind fun M9 =>
  (
    if x4 = (-1 : Int32) then
      some (0 : Int32)
    else
      (ag M9 (n2 + 6) 5 x4).bind fun v12 =>
      some v12
  ).bind fun t10 =>
  (pg M9 (l0 + 1) 9 (3 : Int32) t10).bind fun M13 =>
  (f_X3_since n2 x3 M13).bind fun v15 =>
  (pg M13 (l0 + 1) 9 (4 : Int32) v15).bind fun M16 =>
  (pg M16 (l0 + 1) 9 (5 : Int32) ((M16.1 n2 1) - (M16.1 n2 1) / (24 : Int32) * (24 : Int32))).bind fun M17 =>
  (ag M17 (n2 + 2) 6 x3).bind fun v18 =>
  (pg M17 (l0 + 1) 9 (6 : Int32) v18).bind fun M19 =>
  (pg M19 (l0 + 1) 9 (7 : Int32) x3).bind fun M20 =>
  (ag M20 (n2 + 3) 6 x3).bind fun v21 =>
  (pg M20 (l0 + 1) 9 (8 : Int32) v21).bind fun M22 =>
  (ag M22 (t1 + 8) 4 x1).bind fun v23 =>
  (f_X2_run l0 t1 v23 M22).bind fun t25 =>
  some (t25.1, t25.2)
set_option maxHeartbeats 1000000 in
set_option maxRecDepth 20000 in
theorem t_X2_lawOf {g : GG} {d : Nat} (hd : 2 ≤ d) {l0 : Nat} (hl0 : isL l0) {x1 : Int32} {n2 : Nat} (hn2 : isN n2) {x3 : Int32} {x4 : Int32} {M : Mem} {r : Int32} {M' : Mem} (hf : f_X2_lawOf l0 x1 n2 x3 x4 M = some (r, M')) : ExM g d iX2_lawOf [.ref l0, .int x1, .ref n2, .int x3, .int x4] LAY M (some (.int r), LAY, M') := by
  have hd1 : 1 ≤ d := by omega
  refine ExM.main pnX2 rfl (ls := [some (.ref l0), some (.int x1), some (.ref n2), some (.int x3), some (.int x4), none]) rfl ?_
  intro P hP
  rw [f_X2_lawOf] at hf
  refine x_aload_n hP dX2_lawOf_0 rfl ?_
  obtain ⟨t1, ht1, hrt1, hf⟩ := b_rT hf
  refine x_getM hP fX2_41 (layN hn2) hrt1 dX2_lawOf_1 ?_
  refine x_astore hP (ls2 := [some (.ref l0), some (.int x1), some (.ref n2), some (.int x3), some (.int x4), some (.ref t1)]) dX2_lawOf_4 rfl rfl ?_
  refine x_aload_n hP dX2_lawOf_6 rfl ?_
  refine x_getA hP fX2_11 (layL hl0) (r := l0 + 1) rfl dX2_lawOf_7 ?_
  refine x_iconst hP dX2_lawOf_10 (v := 0) rfl ?_
  refine x_iload hP dX2_lawOf_11 rfl ?_
  refine x_iconst hP dX2_lawOf_13 (v := (-1)) rfl ?_
  obtain ⟨t2, het2, hf⟩ := b_bd hf
  have hj2 : P 28 [some (.ref l0), some (.int x1), some (.ref n2), some (.int x3), some (.int x4), some (.ref t1)] [.int t2, .int (0 : Int32), .ref (l0 + 1)] LAY M := by
    obtain ⟨M5, hiM5, hM5, hf⟩ := b_pg hf
    refine y_ast hP (layL_1 hl0) hiM5 hM5 dX2_lawOf_28 ?_
    refine x_aload_n hP dX2_lawOf_29 rfl ?_
    refine x_getA hP fX2_11 (layL hl0) (r := l0 + 1) rfl dX2_lawOf_30 ?_
    refine x_iconst hP dX2_lawOf_33 (v := 1) rfl ?_
    refine x_aload hP dX2_lawOf_34 rfl ?_
    refine x_getA hP fX2_76 (layT ht1) (r := t1 + 4) rfl dX2_lawOf_36 ?_
    refine x_iload_n hP dX2_lawOf_39 rfl ?_
    obtain ⟨v6, hiv6, hv6, hf⟩ := b_ag hf
    refine y_ald hP (layT_4 ht1) hiv6 hv6 dX2_lawOf_40 ?_
    obtain ⟨M7, hiM7, hM7, hf⟩ := b_pg hf
    refine y_ast hP (layL_1 hl0) hiM7 hM7 dX2_lawOf_41 ?_
    refine x_aload_n hP dX2_lawOf_42 rfl ?_
    refine x_getA hP fX2_11 (layL hl0) (r := l0 + 1) rfl dX2_lawOf_43 ?_
    refine x_iconst hP dX2_lawOf_46 (v := 2) rfl ?_
    refine x_aload hP dX2_lawOf_47 rfl ?_
    refine x_getA hP fX2_79 (layT ht1) (r := t1 + 5) rfl dX2_lawOf_49 ?_
    refine x_iload_n hP dX2_lawOf_52 rfl ?_
    obtain ⟨v8, hiv8, hv8, hf⟩ := b_ag hf
    refine y_ald hP (layT_5 ht1) hiv8 hv8 dX2_lawOf_53 ?_
    obtain ⟨M9, hiM9, hM9, hf⟩ := b_pg hf
    refine y_ast hP (layL_1 hl0) hiM9 hM9 dX2_lawOf_54 ?_
    refine x_aload_n hP dX2_lawOf_55 rfl ?_
    refine x_getA hP fX2_11 (layL hl0) (r := l0 + 1) rfl dX2_lawOf_56 ?_
    refine x_iconst hP dX2_lawOf_59 (v := 3) rfl ?_
    refine x_iload hP dX2_lawOf_60 rfl ?_
    refine x_iconst hP dX2_lawOf_62 (v := (-1)) rfl ?_
    obtain ⟨t10, het10, hf⟩ := b_bd hf
    have hj10 : P 77 [some (.ref l0), some (.int x1), some (.ref n2), some (.int x3), none, some (.ref t1)] [.int t10, .int (3 : Int32), .ref (l0 + 1)] LAY M9 := by
      obtain ⟨M13, hiM13, hM13, hf⟩ := b_pg hf
      refine y_ast hP (layL_1 hl0) hiM13 hM13 dX2_lawOf_77 ?_
      refine x_aload_n hP dX2_lawOf_78 rfl ?_
      refine x_getA hP fX2_11 (layL hl0) (r := l0 + 1) rfl dX2_lawOf_79 ?_
      refine x_iconst hP dX2_lawOf_82 (v := 4) rfl ?_
      refine x_aload_n hP dX2_lawOf_83 rfl ?_
      refine x_iload_n hP dX2_lawOf_84 rfl ?_
      obtain ⟨v15, hc14, hf⟩ := b_bd hf
      refine y_cvi hP oX3_since lX2_85 [.int x3] [.int (4 : Int32), .ref (l0 + 1)] rfl rfl rfl (layN hn2) dX2_lawOf_85 (t_X3_since (d := d - 1) (by omega) hn2 hc14) (by omega) ?_
      obtain ⟨M16, hiM16, hM16, hf⟩ := b_pg hf
      refine y_ast hP (layL_1 hl0) hiM16 hM16 dX2_lawOf_88 ?_
      refine x_aload_n hP dX2_lawOf_89 rfl ?_
      refine x_getA hP fX2_11 (layL hl0) (r := l0 + 1) rfl dX2_lawOf_90 ?_
      refine x_iconst hP dX2_lawOf_93 (v := 5) rfl ?_
      refine x_aload_n hP dX2_lawOf_94 rfl ?_
      refine x_getI hP fX2_88 (layN hn2) dX2_lawOf_95 ?_
      refine x_bipush hP dX2_lawOf_98 (v := 24) rfl ?_
      refine x_irem hP dX2_lawOf_100 (by decide) ?_
      obtain ⟨M17, hiM17, hM17, hf⟩ := b_pg hf
      refine y_ast hP (layL_1 hl0) hiM17 hM17 dX2_lawOf_101 ?_
      refine x_aload_n hP dX2_lawOf_102 rfl ?_
      refine x_getA hP fX2_11 (layL hl0) (r := l0 + 1) rfl dX2_lawOf_103 ?_
      refine x_bipush hP dX2_lawOf_106 (v := 6) rfl ?_
      refine x_aload_n hP dX2_lawOf_108 rfl ?_
      refine x_getA hP fX2_32 (layN hn2) (r := n2 + 2) rfl dX2_lawOf_109 ?_
      refine x_iload_n hP dX2_lawOf_112 rfl ?_
      obtain ⟨v18, hiv18, hv18, hf⟩ := b_ag hf
      refine y_ald hP (layN_2 hn2) hiv18 hv18 dX2_lawOf_113 ?_
      obtain ⟨M19, hiM19, hM19, hf⟩ := b_pg hf
      refine y_ast hP (layL_1 hl0) hiM19 hM19 dX2_lawOf_114 ?_
      refine x_aload_n hP dX2_lawOf_115 rfl ?_
      refine x_getA hP fX2_11 (layL hl0) (r := l0 + 1) rfl dX2_lawOf_116 ?_
      refine x_bipush hP dX2_lawOf_119 (v := 7) rfl ?_
      refine x_iload_n hP dX2_lawOf_121 rfl ?_
      obtain ⟨M20, hiM20, hM20, hf⟩ := b_pg hf
      refine y_ast hP (layL_1 hl0) hiM20 hM20 dX2_lawOf_122 ?_
      refine x_aload_n hP dX2_lawOf_123 rfl ?_
      refine x_getA hP fX2_11 (layL hl0) (r := l0 + 1) rfl dX2_lawOf_124 ?_
      refine x_bipush hP dX2_lawOf_127 (v := 8) rfl ?_
      refine x_aload_n hP dX2_lawOf_129 rfl ?_
      refine x_getA hP fX2_91 (layN hn2) (r := n2 + 3) rfl dX2_lawOf_130 ?_
      refine x_iload_n hP dX2_lawOf_133 rfl ?_
      obtain ⟨v21, hiv21, hv21, hf⟩ := b_ag hf
      refine y_ald hP (layN_3 hn2) hiv21 hv21 dX2_lawOf_134 ?_
      obtain ⟨M22, hiM22, hM22, hf⟩ := b_pg hf
      refine y_ast hP (layL_1 hl0) hiM22 hM22 dX2_lawOf_135 ?_
      refine x_aload_n hP dX2_lawOf_136 rfl ?_
      refine x_aload hP dX2_lawOf_137 rfl ?_
      refine x_aload hP dX2_lawOf_139 rfl ?_
      refine x_getA hP fX2_94 (layT ht1) (r := t1 + 8) rfl dX2_lawOf_141 ?_
      refine x_iload_n hP dX2_lawOf_144 rfl ?_
      obtain ⟨v23, hiv23, hv23, hf⟩ := b_ag hf
      refine y_ald hP (layT_8 ht1) hiv23 hv23 dX2_lawOf_145 ?_
      obtain ⟨t25, hc24, hf⟩ := b_bd hf
      refine y_cvi hP oX2_run lX2_97 [.ref t1, .int v23] [] rfl rfl rfl (layL hl0) dX2_lawOf_146 (t_X2_run (d := d - 1) (by omega) hl0 ht1 hc24) (by omega) ?_
      cases hf
      exact x_iret hP rfl dX2_lawOf_149
    clear hf
    have hf := het10
    clear het10
    refine x_icmp_ne hP dX2_lawOf_63 (tgt := 70) (by decide) (fun c11 => ?_) (fun c11 => ?_)
    · replace hf := p_f c11 hf
      refine x_aload_n hP dX2_lawOf_70 rfl ?_
      refine x_getA hP fX2_82 (layN hn2) (r := n2 + 6) rfl dX2_lawOf_71 ?_
      refine x_iload hP dX2_lawOf_74 rfl ?_
      obtain ⟨v12, hiv12, hv12, hf⟩ := b_ag hf
      refine y_ald hP (layN_6 hn2) hiv12 hv12 dX2_lawOf_76 ?_
      refine x_drop hP [some (.ref l0), some (.int x1), some (.ref n2), some (.int x3), none, some (.ref t1)] (And.intro rfl (And.intro rfl (And.intro rfl (And.intro rfl (And.intro rfl trivial))))) ?_
      cases hf
      exact hj10
    · replace hf := p_t c11 hf
      refine x_iconst hP dX2_lawOf_66 (v := 0) rfl ?_
      refine x_goto hP dX2_lawOf_67 (tgt := 77) (by decide) ?_
      refine x_drop hP [some (.ref l0), some (.int x1), some (.ref n2), some (.int x3), none, some (.ref t1)] (And.intro rfl (And.intro rfl (And.intro rfl (And.intro rfl (And.intro rfl trivial))))) ?_
      cases hf
      exact hj10
  clear hf
  have hf := het2
  clear het2
  refine x_icmp_ne hP dX2_lawOf_14 (tgt := 21) (by decide) (fun c3 => ?_) (fun c3 => ?_)
  · replace hf := p_f c3 hf
    refine x_aload_n hP dX2_lawOf_21 rfl ?_
    refine x_getA hP fX2_55 (layN hn2) (r := n2 + 5) rfl dX2_lawOf_22 ?_
    refine x_iload hP dX2_lawOf_25 rfl ?_
    obtain ⟨v4, hiv4, hv4, hf⟩ := b_ag hf
    refine y_ald hP (layN_5 hn2) hiv4 hv4 dX2_lawOf_27 ?_
    refine x_drop hP [some (.ref l0), some (.int x1), some (.ref n2), some (.int x3), some (.int x4), some (.ref t1)] (And.intro rfl (And.intro rfl (And.intro rfl (And.intro rfl (And.intro rfl (And.intro rfl trivial)))))) ?_
    cases hf
    exact hj2
  · replace hf := p_t c3 hf
    refine x_iconst hP dX2_lawOf_17 (v := 0) rfl ?_
    refine x_goto hP dX2_lawOf_18 (tgt := 28) (by decide) ?_
    refine x_drop hP [some (.ref l0), some (.int x1), some (.ref n2), some (.int x3), some (.int x4), some (.ref t1)] (And.intro rfl (And.intro rfl (And.intro rfl (And.intro rfl (And.intro rfl (And.intro rfl trivial)))))) ?_
    cases hf
    exact hj2
def f_X2_leaves (l0 : Nat) (n1 : Nat) (x2 : Int32) (M : Mem) : Option (Int32 × Mem) :=
  (f_X2_lawOf l0 (3 : Int32) n1 x2 (-1 : Int32) M).bind fun t2 =>
  if t2.1 ≤ 0 then
    some ((0 : Int32), t2.2)
  else
    some ((1 : Int32), t2.2)
set_option maxHeartbeats 1000000 in
set_option maxRecDepth 20000 in
theorem t_X2_leaves {g : GG} {d : Nat} (hd : 3 ≤ d) {l0 : Nat} (hl0 : isL l0) {n1 : Nat} (hn1 : isN n1) {x2 : Int32} {M : Mem} {r : Int32} {M' : Mem} (hf : f_X2_leaves l0 n1 x2 M = some (r, M')) : ExM g d iX2_leaves [.ref l0, .ref n1, .int x2] LAY M (some (.int r), LAY, M') := by
  have hd1 : 1 ≤ d := by omega
  refine ExM.main pnX2 rfl (ls := [some (.ref l0), some (.ref n1), some (.int x2)]) rfl ?_
  intro P hP
  rw [f_X2_leaves] at hf
  refine x_aload_n hP dX2_leaves_0 rfl ?_
  refine x_iconst hP dX2_leaves_1 (v := 3) rfl ?_
  refine x_aload_n hP dX2_leaves_2 rfl ?_
  refine x_iload_n hP dX2_leaves_3 rfl ?_
  refine x_iconst hP dX2_leaves_4 (v := (-1)) rfl ?_
  obtain ⟨t2, hc1, hf⟩ := b_bd hf
  refine y_cvi hP oX2_lawOf lX2_18 [.int (3 : Int32), .ref n1, .int x2, .int (-1 : Int32)] [] rfl rfl rfl (layL hl0) dX2_leaves_5 (t_X2_lawOf (d := d - 1) (by omega) hl0 hn1 hc1) (by omega) ?_
  refine x_if_le hP dX2_leaves_8 (tgt := 15) (by decide) (fun c3 => ?_) (fun c3 => ?_)
  · replace hf := p_t c3 hf
    refine x_iconst hP dX2_leaves_15 (v := 0) rfl ?_
    cases hf
    exact x_zret hP rfl (Or.inl rfl) dX2_leaves_16
  · replace hf := p_f c3 hf
    refine x_iconst hP dX2_leaves_11 (v := 1) rfl ?_
    refine x_goto hP dX2_leaves_12 (tgt := 16) (by decide) ?_
    cases hf
    exact x_zret hP rfl (Or.inr rfl) dX2_leaves_16
def f_X2_held (x0 : Int32) : Option (Int32) :=
  lt (if x0 < (99 : Int32) then x0 else (99 : Int32) : Int32) fun v1 =>
  lt (if (0 : Int32) < v1 then v1 else (0 : Int32) : Int32) fun v2 =>
  some v2
set_option maxHeartbeats 1000000 in
set_option maxRecDepth 20000 in
theorem t_X2_held {g : GG} {L : List Lay} {d : Nat} (hd : 2 ≤ d) {x0 : Int32} {M : Mem} {r : Int32} (hf : f_X2_held x0 = some r) : ExM g d iX2_held [.int x0] L M (some (.int r), L, M) := by
  have hd1 : 1 ≤ d := by omega
  refine ExM.main pnX2 rfl (ls := [some (.int x0)]) rfl ?_
  intro P hP
  rw [f_X2_held] at hf
  refine x_iconst hP dX2_held_0 (v := 0) rfl ?_
  refine x_bipush hP dX2_held_1 (v := 99) rfl ?_
  refine x_iload_n hP dX2_held_3 rfl ?_
  refine y_min hP lX2_35 rfl hd1 dX2_held_4 ?_
  obtain ⟨v1, hv1, hf⟩ := b_lt hf
  refine y_nmI hv1 ?_
  refine y_max hP lX2_73 rfl hd1 dX2_held_7 ?_
  obtain ⟨v2, hv2, hf⟩ := b_lt hf
  refine y_nmI hv2 ?_
  cases hf
  exact x_iret hP rfl dX2_held_10
def f_X2_cools (l0 : Nat) (n1 : Nat) (x2 : Int32) (M : Mem) : Option (Int32 × Mem) :=
  (f_X2_lawOf l0 (2 : Int32) n1 x2 (-1 : Int32) M).bind fun t2 =>
  (f_X2_held t2.1).bind fun v4 =>
  some (v4, t2.2)
set_option maxHeartbeats 1000000 in
set_option maxRecDepth 20000 in
theorem t_X2_cools {g : GG} {d : Nat} (hd : 3 ≤ d) {l0 : Nat} (hl0 : isL l0) {n1 : Nat} (hn1 : isN n1) {x2 : Int32} {M : Mem} {r : Int32} {M' : Mem} (hf : f_X2_cools l0 n1 x2 M = some (r, M')) : ExM g d iX2_cools [.ref l0, .ref n1, .int x2] LAY M (some (.int r), LAY, M') := by
  have hd1 : 1 ≤ d := by omega
  refine ExM.main pnX2 rfl (ls := [some (.ref l0), some (.ref n1), some (.int x2)]) rfl ?_
  intro P hP
  rw [f_X2_cools] at hf
  refine x_aload_n hP dX2_cools_0 rfl ?_
  refine x_iconst hP dX2_cools_1 (v := 2) rfl ?_
  refine x_aload_n hP dX2_cools_2 rfl ?_
  refine x_iload_n hP dX2_cools_3 rfl ?_
  refine x_iconst hP dX2_cools_4 (v := (-1)) rfl ?_
  obtain ⟨t2, hc1, hf⟩ := b_bd hf
  refine y_cvi hP oX2_lawOf lX2_18 [.int (2 : Int32), .ref n1, .int x2, .int (-1 : Int32)] [] rfl rfl rfl (layL hl0) dX2_cools_5 (t_X2_lawOf (d := d - 1) (by omega) hl0 hn1 hc1) (by omega) ?_
  obtain ⟨v4, hc3, hf⟩ := b_bd hf
  refine y_csi hP oX2_held lX2_22 [.int t2.1] [] rfl rfl rfl dX2_cools_8 (t_X2_held (d := d - 1) (by omega) hc3) (by omega) ?_
  cases hf
  exact x_iret hP rfl dX2_cools_11
def f_X2_glowIfTold (l0 : Nat) (n1 : Nat) (x2 : Int32) (x3 : Int32) (M : Mem) : Option (Int32 × Mem) :=
  (f_X3_isHome n1 x2 M).bind fun v2 =>
  if v2 = 0 then
    (ag M (n1 + 2) 6 x2).bind fun v4 =>
    (f_X2_lawOf l0 (0 : Int32) n1 x2 x3 M).bind fun t6 =>
    (f_X2_held t6.1).bind fun v8 =>
    lt (if v4 + v8 < (999 : Int32) then v4 + v8 else (999 : Int32) : Int32) fun v9 =>
    some (v9, t6.2)
  else
    some ((0 : Int32), M)
set_option maxHeartbeats 1000000 in
set_option maxRecDepth 20000 in
theorem t_X2_glowIfTold {g : GG} {d : Nat} (hd : 3 ≤ d) {l0 : Nat} (hl0 : isL l0) {n1 : Nat} (hn1 : isN n1) {x2 : Int32} {x3 : Int32} {M : Mem} {r : Int32} {M' : Mem} (hf : f_X2_glowIfTold l0 n1 x2 x3 M = some (r, M')) : ExM g d iX2_glowIfTold [.ref l0, .ref n1, .int x2, .int x3] LAY M (some (.int r), LAY, M') := by
  have hd1 : 1 ≤ d := by omega
  refine ExM.main pnX2 rfl (ls := [some (.ref l0), some (.ref n1), some (.int x2), some (.int x3)]) rfl ?_
  intro P hP
  rw [f_X2_glowIfTold] at hf
  refine x_aload_n hP dX2_glowIfTold_0 rfl ?_
  refine x_iload_n hP dX2_glowIfTold_1 rfl ?_
  obtain ⟨v2, hc1, hf⟩ := b_bd hf
  refine y_cvi hP oX3_isHome lX2_26 [.int x2] [] rfl rfl rfl (layN hn1) dX2_glowIfTold_2 (t_X3_isHome (d := d - 1) (by omega) hn1 hc1) (by omega) ?_
  refine x_if_eq hP dX2_glowIfTold_5 (tgt := 10) (by decide) (fun c3 => ?_) (fun c3 => ?_)
  · replace hf := p_t c3 hf
    refine x_sipush hP dX2_glowIfTold_10 (v := 999) rfl ?_
    refine x_aload_n hP dX2_glowIfTold_13 rfl ?_
    refine x_getA hP fX2_32 (layN hn1) (r := n1 + 2) rfl dX2_glowIfTold_14 ?_
    refine x_iload_n hP dX2_glowIfTold_17 rfl ?_
    obtain ⟨v4, hiv4, hv4, hf⟩ := b_ag hf
    refine y_ald hP (layN_2 hn1) hiv4 hv4 dX2_glowIfTold_18 ?_
    refine x_aload_n hP dX2_glowIfTold_19 rfl ?_
    refine x_iconst hP dX2_glowIfTold_20 (v := 0) rfl ?_
    refine x_aload_n hP dX2_glowIfTold_21 rfl ?_
    refine x_iload_n hP dX2_glowIfTold_22 rfl ?_
    refine x_iload_n hP dX2_glowIfTold_23 rfl ?_
    obtain ⟨t6, hc5, hf⟩ := b_bd hf
    refine y_cvi hP oX2_lawOf lX2_18 [.int (0 : Int32), .ref n1, .int x2, .int x3] [.int v4, .int (999 : Int32)] rfl rfl rfl (layL hl0) dX2_glowIfTold_24 (t_X2_lawOf (d := d - 1) (by omega) hl0 hn1 hc5) (by omega) ?_
    obtain ⟨v8, hc7, hf⟩ := b_bd hf
    refine y_csi hP oX2_held lX2_22 [.int t6.1] [.int v4, .int (999 : Int32)] rfl rfl rfl dX2_glowIfTold_27 (t_X2_held (d := d - 1) (by omega) hc7) (by omega) ?_
    refine x_iadd hP dX2_glowIfTold_30 ?_
    refine y_min hP lX2_35 rfl hd1 dX2_glowIfTold_31 ?_
    obtain ⟨v9, hv9, hf⟩ := b_lt hf
    refine y_nmI hv9 ?_
    cases hf
    exact x_iret hP rfl dX2_glowIfTold_34
  · replace hf := p_f c3 hf
    refine x_iconst hP dX2_glowIfTold_8 (v := 0) rfl ?_
    cases hf
    exact x_iret hP rfl dX2_glowIfTold_9
def f_X2_glows (l0 : Nat) (n1 : Nat) (x2 : Int32) (x3 : Int32) (M : Mem) : Option (Int32 × Mem) :=
  (f_X2_lawOf l0 (0 : Int32) n1 x2 x3 M).bind fun t2 =>
  (f_X2_held t2.1).bind fun v4 =>
  some (v4, t2.2)
set_option maxHeartbeats 1000000 in
set_option maxRecDepth 20000 in
theorem t_X2_glows {g : GG} {d : Nat} (hd : 3 ≤ d) {l0 : Nat} (hl0 : isL l0) {n1 : Nat} (hn1 : isN n1) {x2 : Int32} {x3 : Int32} {M : Mem} {r : Int32} {M' : Mem} (hf : f_X2_glows l0 n1 x2 x3 M = some (r, M')) : ExM g d iX2_glows [.ref l0, .ref n1, .int x2, .int x3] LAY M (some (.int r), LAY, M') := by
  have hd1 : 1 ≤ d := by omega
  refine ExM.main pnX2 rfl (ls := [some (.ref l0), some (.ref n1), some (.int x2), some (.int x3)]) rfl ?_
  intro P hP
  rw [f_X2_glows] at hf
  refine x_aload_n hP dX2_glows_0 rfl ?_
  refine x_iconst hP dX2_glows_1 (v := 0) rfl ?_
  refine x_aload_n hP dX2_glows_2 rfl ?_
  refine x_iload_n hP dX2_glows_3 rfl ?_
  refine x_iload_n hP dX2_glows_4 rfl ?_
  obtain ⟨t2, hc1, hf⟩ := b_bd hf
  refine y_cvi hP oX2_lawOf lX2_18 [.int (0 : Int32), .ref n1, .int x2, .int x3] [] rfl rfl rfl (layL hl0) dX2_glows_5 (t_X2_lawOf (d := d - 1) (by omega) hl0 hn1 hc1) (by omega) ?_
  obtain ⟨v4, hc3, hf⟩ := b_bd hf
  refine y_csi hP oX2_held lX2_22 [.int t2.1] [] rfl rfl rfl dX2_glows_8 (t_X2_held (d := d - 1) (by omega) hc3) (by omega) ?_
  cases hf
  exact x_iret hP rfl dX2_glows_11
def f_X2_wears (l0 : Nat) (n1 : Nat) (x2 : Int32) (x3 : Int32) (M : Mem) : Option (Int32 × Mem) :=
  (f_X2_lawOf l0 (1 : Int32) n1 x2 x3 M).bind fun t2 =>
  (f_X2_held t2.1).bind fun v4 =>
  some (v4, t2.2)
set_option maxHeartbeats 1000000 in
set_option maxRecDepth 20000 in
theorem t_X2_wears {g : GG} {d : Nat} (hd : 3 ≤ d) {l0 : Nat} (hl0 : isL l0) {n1 : Nat} (hn1 : isN n1) {x2 : Int32} {x3 : Int32} {M : Mem} {r : Int32} {M' : Mem} (hf : f_X2_wears l0 n1 x2 x3 M = some (r, M')) : ExM g d iX2_wears [.ref l0, .ref n1, .int x2, .int x3] LAY M (some (.int r), LAY, M') := by
  have hd1 : 1 ≤ d := by omega
  refine ExM.main pnX2 rfl (ls := [some (.ref l0), some (.ref n1), some (.int x2), some (.int x3)]) rfl ?_
  intro P hP
  rw [f_X2_wears] at hf
  refine x_aload_n hP dX2_wears_0 rfl ?_
  refine x_iconst hP dX2_wears_1 (v := 1) rfl ?_
  refine x_aload_n hP dX2_wears_2 rfl ?_
  refine x_iload_n hP dX2_wears_3 rfl ?_
  refine x_iload_n hP dX2_wears_4 rfl ?_
  obtain ⟨t2, hc1, hf⟩ := b_bd hf
  refine y_cvi hP oX2_lawOf lX2_18 [.int (1 : Int32), .ref n1, .int x2, .int x3] [] rfl rfl rfl (layL hl0) dX2_wears_5 (t_X2_lawOf (d := d - 1) (by omega) hl0 hn1 hc1) (by omega) ?_
  obtain ⟨v4, hc3, hf⟩ := b_bd hf
  refine y_csi hP oX2_held lX2_22 [.int t2.1] [] rfl rfl rfl dX2_wears_8 (t_X2_held (d := d - 1) (by omega) hc3) (by omega) ?_
  cases hf
  exact x_iret hP rfl dX2_wears_11
def f_X2_hottestFor_L8 (l0 : Nat) (n1 : Nat) : Nat → Int32 → Int32 → Int32 → Int32 → Mem → Option (Int32 × Mem)
  | 0, _, _, _, _, _ => none
  | fu + 1, l2, l3, l4, l5, M =>
    (rT M n1 0).bind fun t1 =>
    if M.1 t1 13 ≤ l5 then
      some (l3, M)
    else
      (f_X2_glowIfTold l0 n1 l2 l5 M).bind fun t4 =>
      if t4.1 ≤ l4 then
        lt (l5 + 1 : Int32) fun v6 =>
        f_X2_hottestFor_L8 l0 n1 fu l2 l3 l4 v6 t4.2
      else
        lt (l5 + 1 : Int32) fun v7 =>
        f_X2_hottestFor_L8 l0 n1 fu l2 l5 t4.1 v7 t4.2
def f_X2_hottestFor (l0 : Nat) (n1 : Nat) (x2 : Int32) (M : Mem) : Option (Int32 × Mem) :=
  (f_X2_hottestFor_L8 l0 n1 FU x2 (0 : Int32) (-1 : Int32) (0 : Int32) M).bind fun t8 =>
  some (t8.1, t8.2)
set_option maxHeartbeats 1000000 in
set_option maxRecDepth 20000 in
theorem t_X2_hottestFor_L8 {g : GG} {d : Nat} {P : PT} {res : Option RS} (hd : 4 ≤ d) {l0 : Nat} (hl0 : isL l0) {n1 : Nat} (hn1 : isN n1) (hP : IsM g iX2_hottestFor d res P) : ∀ (fu : Nat) (l2 : Int32) (l3 : Int32) (l4 : Int32) (l5 : Int32) (M : Mem) (t : Int32 × Mem), f_X2_hottestFor_L8 l0 n1 fu l2 l3 l4 l5 M = some t → P 50 [none, none, none, some (.int t.1), none, none, none] [] LAY t.2 → P 8 [some (.ref l0), some (.ref n1), some (.int l2), some (.int l3), some (.int l4), some (.int l5), none] [] LAY M := by
  have hd1 : 1 ≤ d := by omega
  intro fu
  induction fu with
  | zero => intro l2 l3 l4 l5 M t hf; simp [f_X2_hottestFor_L8] at hf
  | succ fu ih =>
    intro l2 l3 l4 l5 M t hf hx
    rw [f_X2_hottestFor_L8] at hf
    refine x_iload hP dX2_hottestFor_8 rfl ?_
    refine x_aload_n hP dX2_hottestFor_10 rfl ?_
    obtain ⟨t1, ht1, hrt1, hf⟩ := b_rT hf
    refine x_getM hP fX2_41 (layN hn1) hrt1 dX2_hottestFor_11 ?_
    refine x_getI hP fX2_45 (layT ht1) dX2_hottestFor_14 ?_
    refine x_icmp_ge hP dX2_hottestFor_17 (tgt := 50) (by decide) (fun c2 => ?_) (fun c2 => ?_)
    · replace hf := p_t c2 hf
      refine x_drop hP [none, none, none, some (.int l3), none, none, none] (And.intro rfl trivial) ?_
      cases hf
      exact hx
    · replace hf := p_f c2 hf
      refine x_aload_n hP dX2_hottestFor_20 rfl ?_
      refine x_aload_n hP dX2_hottestFor_21 rfl ?_
      refine x_iload_n hP dX2_hottestFor_22 rfl ?_
      refine x_iload hP dX2_hottestFor_23 rfl ?_
      obtain ⟨t4, hc3, hf⟩ := b_bd hf
      refine y_cvi hP oX2_glowIfTold lX2_51 [.ref n1, .int l2, .int l5] [] rfl rfl rfl (layL hl0) dX2_hottestFor_25 (t_X2_glowIfTold (d := d - 1) (by omega) hl0 hn1 hc3) (by omega) ?_
      refine x_istore hP (ls2 := [some (.ref l0), some (.ref n1), some (.int l2), some (.int l3), some (.int l4), some (.int l5), some (.int t4.1)]) dX2_hottestFor_28 rfl rfl ?_
      refine x_iload hP dX2_hottestFor_30 rfl ?_
      refine x_iload hP dX2_hottestFor_32 rfl ?_
      refine x_icmp_le hP dX2_hottestFor_34 (tgt := 44) (by decide) (fun c5 => ?_) (fun c5 => ?_)
      · replace hf := p_t c5 hf
        obtain ⟨v6, hv6, hf⟩ := b_lt hf
        refine x_iinc hP (v := v6) (ls2 := [some (.ref l0), some (.ref n1), some (.int l2), some (.int l3), some (.int l4), some (.int v6), some (.int t4.1)]) dX2_hottestFor_44 rfl (by rw [hv6]; rfl) rfl rfl ?_
        refine x_goto hP dX2_hottestFor_47 (tgt := 8) (by decide) ?_
        refine x_drop hP [some (.ref l0), some (.ref n1), some (.int l2), some (.int l3), some (.int l4), some (.int v6), none] (And.intro rfl (And.intro rfl (And.intro rfl (And.intro rfl (And.intro rfl (And.intro rfl trivial)))))) ?_
        exact ih _ _ _ _ _ _ hf hx
      · replace hf := p_f c5 hf
        refine x_iload hP dX2_hottestFor_37 rfl ?_
        refine x_istore hP (ls2 := [some (.ref l0), some (.ref n1), some (.int l2), some (.int l3), some (.int t4.1), some (.int l5), some (.int t4.1)]) dX2_hottestFor_39 rfl rfl ?_
        refine x_iload hP dX2_hottestFor_41 rfl ?_
        refine x_istore_n hP (ls2 := [some (.ref l0), some (.ref n1), some (.int l2), some (.int l5), some (.int t4.1), some (.int l5), some (.int t4.1)]) dX2_hottestFor_43 rfl rfl rfl ?_
        obtain ⟨v7, hv7, hf⟩ := b_lt hf
        refine x_iinc hP (v := v7) (ls2 := [some (.ref l0), some (.ref n1), some (.int l2), some (.int l5), some (.int t4.1), some (.int v7), some (.int t4.1)]) dX2_hottestFor_44 rfl (by rw [hv7]; rfl) rfl rfl ?_
        refine x_goto hP dX2_hottestFor_47 (tgt := 8) (by decide) ?_
        refine x_drop hP [some (.ref l0), some (.ref n1), some (.int l2), some (.int l5), some (.int t4.1), some (.int v7), none] (And.intro rfl (And.intro rfl (And.intro rfl (And.intro rfl (And.intro rfl (And.intro rfl trivial)))))) ?_
        exact ih _ _ _ _ _ _ hf hx
set_option maxHeartbeats 1000000 in
set_option maxRecDepth 20000 in
theorem t_X2_hottestFor {g : GG} {d : Nat} (hd : 4 ≤ d) {l0 : Nat} (hl0 : isL l0) {n1 : Nat} (hn1 : isN n1) {x2 : Int32} {M : Mem} {r : Int32} {M' : Mem} (hf : f_X2_hottestFor l0 n1 x2 M = some (r, M')) : ExM g d iX2_hottestFor [.ref l0, .ref n1, .int x2] LAY M (some (.int r), LAY, M') := by
  have hd1 : 1 ≤ d := by omega
  refine ExM.main pnX2 rfl (ls := [some (.ref l0), some (.ref n1), some (.int x2), none, none, none, none]) rfl ?_
  intro P hP
  rw [f_X2_hottestFor] at hf
  refine x_iconst hP dX2_hottestFor_0 (v := 0) rfl ?_
  refine x_istore_n hP (ls2 := [some (.ref l0), some (.ref n1), some (.int x2), some (.int (0 : Int32)), none, none, none]) dX2_hottestFor_1 rfl rfl rfl ?_
  refine x_iconst hP dX2_hottestFor_2 (v := (-1)) rfl ?_
  refine x_istore hP (ls2 := [some (.ref l0), some (.ref n1), some (.int x2), some (.int (0 : Int32)), some (.int (-1 : Int32)), none, none]) dX2_hottestFor_3 rfl rfl ?_
  refine x_iconst hP dX2_hottestFor_5 (v := 0) rfl ?_
  refine x_istore hP (ls2 := [some (.ref l0), some (.ref n1), some (.int x2), some (.int (0 : Int32)), some (.int (-1 : Int32)), some (.int (0 : Int32)), none]) dX2_hottestFor_6 rfl rfl ?_
  refine x_drop hP [some (.ref l0), some (.ref n1), some (.int x2), some (.int (0 : Int32)), some (.int (-1 : Int32)), some (.int (0 : Int32)), none] (And.intro rfl (And.intro rfl (And.intro rfl (And.intro rfl (And.intro rfl (And.intro rfl trivial)))))) ?_
  obtain ⟨t8, hl9, hf⟩ := b_bd hf
  refine t_X2_hottestFor_L8 hd hl0 hn1 hP _ _ _ _ _ _ _ hl9 ?_
  refine x_iload_n hP dX2_hottestFor_50 rfl ?_
  cases hf
  exact x_iret hP rfl dX2_hottestFor_51
def f_X2_mostLasting_L9 (l0 : Nat) (n1 : Nat) : Nat → Int32 → Int32 → Int32 → Int32 → Mem → Option (Int32 × Mem)
  | 0, _, _, _, _, _ => none
  | fu + 1, l2, l3, l4, l5, M =>
    (rT M n1 0).bind fun t1 =>
    if M.1 t1 13 ≤ l5 then
      some (l3, M)
    else
      (ag M (n1 + 5) 5 l5).bind fun v3 =>
      (f_X2_wears l0 n1 l2 l5 M).bind fun t5 =>
      lt (v3 - t5.1 : Int32) fun v6 =>
      if v6 ≤ l4 then
        lt (l5 + 1 : Int32) fun v8 =>
        f_X2_mostLasting_L9 l0 n1 fu l2 l3 l4 v8 t5.2
      else
        lt (l5 + 1 : Int32) fun v9 =>
        f_X2_mostLasting_L9 l0 n1 fu l2 l5 v6 v9 t5.2
def f_X2_mostLasting (l0 : Nat) (n1 : Nat) (x2 : Int32) (M : Mem) : Option (Int32 × Mem) :=
  (f_X2_mostLasting_L9 l0 n1 FU x2 (0 : Int32) (-100 : Int32) (0 : Int32) M).bind fun t10 =>
  some (t10.1, t10.2)
set_option maxHeartbeats 1000000 in
set_option maxRecDepth 20000 in
theorem t_X2_mostLasting_L9 {g : GG} {d : Nat} {P : PT} {res : Option RS} (hd : 4 ≤ d) {l0 : Nat} (hl0 : isL l0) {n1 : Nat} (hn1 : isN n1) (hP : IsM g iX2_mostLasting d res P) : ∀ (fu : Nat) (l2 : Int32) (l3 : Int32) (l4 : Int32) (l5 : Int32) (M : Mem) (t : Int32 × Mem), f_X2_mostLasting_L9 l0 n1 fu l2 l3 l4 l5 M = some t → P 59 [none, none, none, some (.int t.1), none, none, none] [] LAY t.2 → P 9 [some (.ref l0), some (.ref n1), some (.int l2), some (.int l3), some (.int l4), some (.int l5), none] [] LAY M := by
  have hd1 : 1 ≤ d := by omega
  intro fu
  induction fu with
  | zero => intro l2 l3 l4 l5 M t hf; simp [f_X2_mostLasting_L9] at hf
  | succ fu ih =>
    intro l2 l3 l4 l5 M t hf hx
    rw [f_X2_mostLasting_L9] at hf
    refine x_iload hP dX2_mostLasting_9 rfl ?_
    refine x_aload_n hP dX2_mostLasting_11 rfl ?_
    obtain ⟨t1, ht1, hrt1, hf⟩ := b_rT hf
    refine x_getM hP fX2_41 (layN hn1) hrt1 dX2_mostLasting_12 ?_
    refine x_getI hP fX2_45 (layT ht1) dX2_mostLasting_15 ?_
    refine x_icmp_ge hP dX2_mostLasting_18 (tgt := 59) (by decide) (fun c2 => ?_) (fun c2 => ?_)
    · replace hf := p_t c2 hf
      refine x_drop hP [none, none, none, some (.int l3), none, none, none] (And.intro rfl trivial) ?_
      cases hf
      exact hx
    · replace hf := p_f c2 hf
      refine x_aload_n hP dX2_mostLasting_21 rfl ?_
      refine x_getA hP fX2_55 (layN hn1) (r := n1 + 5) rfl dX2_mostLasting_22 ?_
      refine x_iload hP dX2_mostLasting_25 rfl ?_
      obtain ⟨v3, hiv3, hv3, hf⟩ := b_ag hf
      refine y_ald hP (layN_5 hn1) hiv3 hv3 dX2_mostLasting_27 ?_
      refine x_aload_n hP dX2_mostLasting_28 rfl ?_
      refine x_aload_n hP dX2_mostLasting_29 rfl ?_
      refine x_iload_n hP dX2_mostLasting_30 rfl ?_
      refine x_iload hP dX2_mostLasting_31 rfl ?_
      obtain ⟨t5, hc4, hf⟩ := b_bd hf
      refine y_cvi hP oX2_wears lX2_58 [.ref n1, .int l2, .int l5] [.int v3] rfl rfl rfl (layL hl0) dX2_mostLasting_33 (t_X2_wears (d := d - 1) (by omega) hl0 hn1 hc4) (by omega) ?_
      refine x_isub hP dX2_mostLasting_36 ?_
      obtain ⟨v6, hv6, hf⟩ := b_lt hf
      refine y_nmI hv6 ?_
      refine x_istore hP (ls2 := [some (.ref l0), some (.ref n1), some (.int l2), some (.int l3), some (.int l4), some (.int l5), some (.int v6)]) dX2_mostLasting_37 rfl rfl ?_
      refine x_iload hP dX2_mostLasting_39 rfl ?_
      refine x_iload hP dX2_mostLasting_41 rfl ?_
      refine x_icmp_le hP dX2_mostLasting_43 (tgt := 53) (by decide) (fun c7 => ?_) (fun c7 => ?_)
      · replace hf := p_t c7 hf
        obtain ⟨v8, hv8, hf⟩ := b_lt hf
        refine x_iinc hP (v := v8) (ls2 := [some (.ref l0), some (.ref n1), some (.int l2), some (.int l3), some (.int l4), some (.int v8), some (.int v6)]) dX2_mostLasting_53 rfl (by rw [hv8]; rfl) rfl rfl ?_
        refine x_goto hP dX2_mostLasting_56 (tgt := 9) (by decide) ?_
        refine x_drop hP [some (.ref l0), some (.ref n1), some (.int l2), some (.int l3), some (.int l4), some (.int v8), none] (And.intro rfl (And.intro rfl (And.intro rfl (And.intro rfl (And.intro rfl (And.intro rfl trivial)))))) ?_
        exact ih _ _ _ _ _ _ hf hx
      · replace hf := p_f c7 hf
        refine x_iload hP dX2_mostLasting_46 rfl ?_
        refine x_istore hP (ls2 := [some (.ref l0), some (.ref n1), some (.int l2), some (.int l3), some (.int v6), some (.int l5), some (.int v6)]) dX2_mostLasting_48 rfl rfl ?_
        refine x_iload hP dX2_mostLasting_50 rfl ?_
        refine x_istore_n hP (ls2 := [some (.ref l0), some (.ref n1), some (.int l2), some (.int l5), some (.int v6), some (.int l5), some (.int v6)]) dX2_mostLasting_52 rfl rfl rfl ?_
        obtain ⟨v9, hv9, hf⟩ := b_lt hf
        refine x_iinc hP (v := v9) (ls2 := [some (.ref l0), some (.ref n1), some (.int l2), some (.int l5), some (.int v6), some (.int v9), some (.int v6)]) dX2_mostLasting_53 rfl (by rw [hv9]; rfl) rfl rfl ?_
        refine x_goto hP dX2_mostLasting_56 (tgt := 9) (by decide) ?_
        refine x_drop hP [some (.ref l0), some (.ref n1), some (.int l2), some (.int l5), some (.int v6), some (.int v9), none] (And.intro rfl (And.intro rfl (And.intro rfl (And.intro rfl (And.intro rfl (And.intro rfl trivial)))))) ?_
        exact ih _ _ _ _ _ _ hf hx
set_option maxHeartbeats 1000000 in
set_option maxRecDepth 20000 in
theorem t_X2_mostLasting {g : GG} {d : Nat} (hd : 4 ≤ d) {l0 : Nat} (hl0 : isL l0) {n1 : Nat} (hn1 : isN n1) {x2 : Int32} {M : Mem} {r : Int32} {M' : Mem} (hf : f_X2_mostLasting l0 n1 x2 M = some (r, M')) : ExM g d iX2_mostLasting [.ref l0, .ref n1, .int x2] LAY M (some (.int r), LAY, M') := by
  have hd1 : 1 ≤ d := by omega
  refine ExM.main pnX2 rfl (ls := [some (.ref l0), some (.ref n1), some (.int x2), none, none, none, none]) rfl ?_
  intro P hP
  rw [f_X2_mostLasting] at hf
  refine x_iconst hP dX2_mostLasting_0 (v := 0) rfl ?_
  refine x_istore_n hP (ls2 := [some (.ref l0), some (.ref n1), some (.int x2), some (.int (0 : Int32)), none, none, none]) dX2_mostLasting_1 rfl rfl rfl ?_
  refine x_bipush hP dX2_mostLasting_2 (v := (-100)) rfl ?_
  refine x_istore hP (ls2 := [some (.ref l0), some (.ref n1), some (.int x2), some (.int (0 : Int32)), some (.int (-100 : Int32)), none, none]) dX2_mostLasting_4 rfl rfl ?_
  refine x_iconst hP dX2_mostLasting_6 (v := 0) rfl ?_
  refine x_istore hP (ls2 := [some (.ref l0), some (.ref n1), some (.int x2), some (.int (0 : Int32)), some (.int (-100 : Int32)), some (.int (0 : Int32)), none]) dX2_mostLasting_7 rfl rfl ?_
  refine x_drop hP [some (.ref l0), some (.ref n1), some (.int x2), some (.int (0 : Int32)), some (.int (-100 : Int32)), some (.int (0 : Int32)), none] (And.intro rfl (And.intro rfl (And.intro rfl (And.intro rfl (And.intro rfl (And.intro rfl trivial)))))) ?_
  obtain ⟨t10, hl11, hf⟩ := b_bd hf
  refine t_X2_mostLasting_L9 hd hl0 hn1 hP _ _ _ _ _ _ _ hl11 ?_
  refine x_iload_n hP dX2_mostLasting_59 rfl ?_
  cases hf
  exact x_iret hP rfl dX2_mostLasting_60
def f_X2_apart_L6 (l0 : Nat) (n1 : Nat) : Nat → Int32 → Int32 → Int32 → Int32 → Mem → Option (Int32 × Mem)
  | 0, _, _, _, _, _ => none
  | fu + 1, l2, l3, l4, l5, M =>
    (rT M n1 0).bind fun t1 =>
    if M.1 t1 12 ≤ l5 then
      some (l4, M)
    else
      (f_X3_isHome n1 l5 M).bind fun v4 =>
      if v4 = 0 then
        (f_X2_glows l0 n1 l5 l2 M).bind fun t7 =>
        (f_X2_glows l0 n1 l5 l3 t7.2).bind fun t9 =>
        lt (if 0 ≤ t7.1 - t9.1 then t7.1 - t9.1 else 0 - (t7.1 - t9.1) : Int32) fun v10 =>
        lt (l4 + v10 : Int32) fun v11 =>
        lt (l5 + 1 : Int32) fun v12 =>
        f_X2_apart_L6 l0 n1 fu l2 l3 v11 v12 t9.2
      else
        lt (l5 + 1 : Int32) fun v13 =>
        f_X2_apart_L6 l0 n1 fu l2 l3 l4 v13 M
def f_X2_apart (l0 : Nat) (n1 : Nat) (x2 : Int32) (x3 : Int32) (M : Mem) : Option (Int32 × Mem) :=
  (f_X2_apart_L6 l0 n1 FU x2 x3 (0 : Int32) (0 : Int32) M).bind fun t14 =>
  some (t14.1, t14.2)
set_option maxHeartbeats 1000000 in
set_option maxRecDepth 20000 in
theorem t_X2_apart_L6 {g : GG} {d : Nat} {P : PT} {res : Option RS} (hd : 4 ≤ d) {l0 : Nat} (hl0 : isL l0) {n1 : Nat} (hn1 : isN n1) (hP : IsM g iX2_apart d res P) : ∀ (fu : Nat) (l2 : Int32) (l3 : Int32) (l4 : Int32) (l5 : Int32) (M : Mem) (t : Int32 × Mem), f_X2_apart_L6 l0 n1 fu l2 l3 l4 l5 M = some t → P 58 [none, none, none, none, some (.int t.1), none] [] LAY t.2 → P 6 [some (.ref l0), some (.ref n1), some (.int l2), some (.int l3), some (.int l4), some (.int l5)] [] LAY M := by
  have hd1 : 1 ≤ d := by omega
  intro fu
  induction fu with
  | zero => intro l2 l3 l4 l5 M t hf; simp [f_X2_apart_L6] at hf
  | succ fu ih =>
    intro l2 l3 l4 l5 M t hf hx
    rw [f_X2_apart_L6] at hf
    refine x_iload hP dX2_apart_6 rfl ?_
    refine x_aload_n hP dX2_apart_8 rfl ?_
    obtain ⟨t1, ht1, hrt1, hf⟩ := b_rT hf
    refine x_getM hP fX2_41 (layN hn1) hrt1 dX2_apart_9 ?_
    refine x_getI hP fX2_61 (layT ht1) dX2_apart_12 ?_
    refine x_icmp_ge hP dX2_apart_15 (tgt := 58) (by decide) (fun c2 => ?_) (fun c2 => ?_)
    · replace hf := p_t c2 hf
      refine x_drop hP [none, none, none, none, some (.int l4), none] (And.intro rfl trivial) ?_
      cases hf
      exact hx
    · replace hf := p_f c2 hf
      refine x_aload_n hP dX2_apart_18 rfl ?_
      refine x_iload hP dX2_apart_19 rfl ?_
      obtain ⟨v4, hc3, hf⟩ := b_bd hf
      refine y_cvi hP oX3_isHome lX2_26 [.int l5] [] rfl rfl rfl (layN hn1) dX2_apart_21 (t_X3_isHome (d := d - 1) (by omega) hn1 hc3) (by omega) ?_
      refine x_if_ne hP dX2_apart_24 (tgt := 52) (by decide) (fun c5 => ?_) (fun c5 => ?_)
      · replace hf := p_f c5 hf
        obtain ⟨v13, hv13, hf⟩ := b_lt hf
        refine x_iinc hP (v := v13) (ls2 := [some (.ref l0), some (.ref n1), some (.int l2), some (.int l3), some (.int l4), some (.int v13)]) dX2_apart_52 rfl (by rw [hv13]; rfl) rfl rfl ?_
        refine x_goto hP dX2_apart_55 (tgt := 6) (by decide) ?_
        refine x_drop hP [some (.ref l0), some (.ref n1), some (.int l2), some (.int l3), some (.int l4), some (.int v13)] (And.intro rfl (And.intro rfl (And.intro rfl (And.intro rfl (And.intro rfl (And.intro rfl trivial)))))) ?_
        exact ih _ _ _ _ _ _ hf hx
      · replace hf := p_t c5 hf
        refine x_iload hP dX2_apart_27 rfl ?_
        refine x_aload_n hP dX2_apart_29 rfl ?_
        refine x_aload_n hP dX2_apart_30 rfl ?_
        refine x_iload hP dX2_apart_31 rfl ?_
        refine x_iload_n hP dX2_apart_33 rfl ?_
        obtain ⟨t7, hc6, hf⟩ := b_bd hf
        refine y_cvi hP oX2_glows lX2_64 [.ref n1, .int l5, .int l2] [.int l4] rfl rfl rfl (layL hl0) dX2_apart_34 (t_X2_glows (d := d - 1) (by omega) hl0 hn1 hc6) (by omega) ?_
        refine x_aload_n hP dX2_apart_37 rfl ?_
        refine x_aload_n hP dX2_apart_38 rfl ?_
        refine x_iload hP dX2_apart_39 rfl ?_
        refine x_iload_n hP dX2_apart_41 rfl ?_
        obtain ⟨t9, hc8, hf⟩ := b_bd hf
        refine y_cvi hP oX2_glows lX2_64 [.ref n1, .int l5, .int l3] [.int t7.1, .int l4] rfl rfl rfl (layL hl0) dX2_apart_42 (t_X2_glows (d := d - 1) (by omega) hl0 hn1 hc8) (by omega) ?_
        refine x_isub hP dX2_apart_45 ?_
        refine y_abs hP lX2_67 rfl hd1 dX2_apart_46 ?_
        obtain ⟨v10, hv10, hf⟩ := b_lt hf
        refine y_nmI hv10 ?_
        refine x_iadd hP dX2_apart_49 ?_
        obtain ⟨v11, hv11, hf⟩ := b_lt hf
        refine y_nmI hv11 ?_
        refine x_istore hP (ls2 := [some (.ref l0), some (.ref n1), some (.int l2), some (.int l3), some (.int v11), some (.int l5)]) dX2_apart_50 rfl rfl ?_
        obtain ⟨v12, hv12, hf⟩ := b_lt hf
        refine x_iinc hP (v := v12) (ls2 := [some (.ref l0), some (.ref n1), some (.int l2), some (.int l3), some (.int v11), some (.int v12)]) dX2_apart_52 rfl (by rw [hv12]; rfl) rfl rfl ?_
        refine x_goto hP dX2_apart_55 (tgt := 6) (by decide) ?_
        refine x_drop hP [some (.ref l0), some (.ref n1), some (.int l2), some (.int l3), some (.int v11), some (.int v12)] (And.intro rfl (And.intro rfl (And.intro rfl (And.intro rfl (And.intro rfl (And.intro rfl trivial)))))) ?_
        exact ih _ _ _ _ _ _ hf hx
set_option maxHeartbeats 1000000 in
set_option maxRecDepth 20000 in
theorem t_X2_apart {g : GG} {d : Nat} (hd : 4 ≤ d) {l0 : Nat} (hl0 : isL l0) {n1 : Nat} (hn1 : isN n1) {x2 : Int32} {x3 : Int32} {M : Mem} {r : Int32} {M' : Mem} (hf : f_X2_apart l0 n1 x2 x3 M = some (r, M')) : ExM g d iX2_apart [.ref l0, .ref n1, .int x2, .int x3] LAY M (some (.int r), LAY, M') := by
  have hd1 : 1 ≤ d := by omega
  refine ExM.main pnX2 rfl (ls := [some (.ref l0), some (.ref n1), some (.int x2), some (.int x3), none, none]) rfl ?_
  intro P hP
  rw [f_X2_apart] at hf
  refine x_iconst hP dX2_apart_0 (v := 0) rfl ?_
  refine x_istore hP (ls2 := [some (.ref l0), some (.ref n1), some (.int x2), some (.int x3), some (.int (0 : Int32)), none]) dX2_apart_1 rfl rfl ?_
  refine x_iconst hP dX2_apart_3 (v := 0) rfl ?_
  refine x_istore hP (ls2 := [some (.ref l0), some (.ref n1), some (.int x2), some (.int x3), some (.int (0 : Int32)), some (.int (0 : Int32))]) dX2_apart_4 rfl rfl ?_
  refine x_drop hP [some (.ref l0), some (.ref n1), some (.int x2), some (.int x3), some (.int (0 : Int32)), some (.int (0 : Int32))] (And.intro rfl (And.intro rfl (And.intro rfl (And.intro rfl (And.intro rfl (And.intro rfl trivial)))))) ?_
  obtain ⟨t14, hl15, hf⟩ := b_bd hf
  refine t_X2_apart_L6 hd hl0 hn1 hP _ _ _ _ _ _ _ hl15 ?_
  refine x_iload hP dX2_apart_58 rfl ?_
  cases hf
  exact x_iret hP rfl dX2_apart_60
def f_X2_mostAlike_L27 (l0 : Nat) (n1 : Nat) : Nat → Int32 → Int32 → Int32 → Int32 → Mem → Option (Int32 × Int32 × Mem)
  | 0, _, _, _, _, _ => none
  | fu + 1, l2, l3, l4, l5, M =>
    (rT M n1 0).bind fun t4 =>
    if M.1 t4 13 ≤ l5 then
      some (l2, l3, M)
    else
      (f_X2_apart l0 n1 l4 l5 M).bind fun t7 =>
      if l3 ≤ t7.1 then
        lt (l5 + 1 : Int32) fun v9 =>
        f_X2_mostAlike_L27 l0 n1 fu l2 l3 l4 v9 t7.2
      else
        lt (((10 : Int32) * l4) + l5 : Int32) fun v10 =>
        lt (l5 + 1 : Int32) fun v11 =>
        f_X2_mostAlike_L27 l0 n1 fu v10 t7.1 l4 v11 t7.2
def f_X2_mostAlike_L9 (l0 : Nat) (n1 : Nat) : Nat → Int32 → Int32 → Int32 → Mem → Option (Int32 × Mem)
  | 0, _, _, _, _ => none
  | fu + 1, l2, l3, l4, M =>
    (rT M n1 0).bind fun t1 =>
    if M.1 t1 13 ≤ l4 then
      some (l2, M)
    else
      lt (l4 + (1 : Int32) : Int32) fun v3 =>
      (f_X2_mostAlike_L27 l0 n1 FU l2 l3 l4 v3 M).bind fun t12 =>
      lt (l4 + 1 : Int32) fun v14 =>
      f_X2_mostAlike_L9 l0 n1 fu t12.1 t12.2.1 v14 t12.2.2
def f_X2_mostAlike (l0 : Nat) (n1 : Nat) (M : Mem) : Option (Int32 × Mem) :=
  (f_X2_mostAlike_L9 l0 n1 FU (1 : Int32) (595 : Int32) (0 : Int32) M).bind fun t15 =>
  some (t15.1, t15.2)
set_option maxHeartbeats 1000000 in
set_option maxRecDepth 20000 in
theorem t_X2_mostAlike_L27 {g : GG} {d : Nat} {P : PT} {res : Option RS} (hd : 5 ≤ d) {l0 : Nat} (hl0 : isL l0) {n1 : Nat} (hn1 : isN n1) (hP : IsM g iX2_mostAlike d res P) : ∀ (fu : Nat) (l2 : Int32) (l3 : Int32) (l4 : Int32) (l5 : Int32) (M : Mem) (t : Int32 × Int32 × Mem), f_X2_mostAlike_L27 l0 n1 fu l2 l3 l4 l5 M = some t → P 74 [some (.ref l0), some (.ref n1), some (.int t.1), some (.int t.2.1), some (.int l4), none, none] [] LAY t.2.2 → P 27 [some (.ref l0), some (.ref n1), some (.int l2), some (.int l3), some (.int l4), some (.int l5), none] [] LAY M := by
  have hd1 : 1 ≤ d := by omega
  intro fu
  induction fu with
  | zero => intro l2 l3 l4 l5 M t hf; simp [f_X2_mostAlike_L27] at hf
  | succ fu ih =>
    intro l2 l3 l4 l5 M t hf hx
    rw [f_X2_mostAlike_L27] at hf
    refine x_iload hP dX2_mostAlike_27 rfl ?_
    refine x_aload_n hP dX2_mostAlike_29 rfl ?_
    obtain ⟨t4, ht4, hrt4, hf⟩ := b_rT hf
    refine x_getM hP fX2_41 (layN hn1) hrt4 dX2_mostAlike_30 ?_
    refine x_getI hP fX2_45 (layT ht4) dX2_mostAlike_33 ?_
    refine x_icmp_ge hP dX2_mostAlike_36 (tgt := 74) (by decide) (fun c5 => ?_) (fun c5 => ?_)
    · replace hf := p_t c5 hf
      refine x_drop hP [some (.ref l0), some (.ref n1), some (.int l2), some (.int l3), some (.int l4), none, none] (And.intro rfl (And.intro rfl (And.intro rfl (And.intro rfl (And.intro rfl trivial))))) ?_
      cases hf
      exact hx
    · replace hf := p_f c5 hf
      refine x_aload_n hP dX2_mostAlike_39 rfl ?_
      refine x_aload_n hP dX2_mostAlike_40 rfl ?_
      refine x_iload hP dX2_mostAlike_41 rfl ?_
      refine x_iload hP dX2_mostAlike_43 rfl ?_
      obtain ⟨t7, hc6, hf⟩ := b_bd hf
      refine y_cvi hP oX2_apart lX2_70 [.ref n1, .int l4, .int l5] [] rfl rfl rfl (layL hl0) dX2_mostAlike_45 (t_X2_apart (d := d - 1) (by omega) hl0 hn1 hc6) (by omega) ?_
      refine x_istore hP (ls2 := [some (.ref l0), some (.ref n1), some (.int l2), some (.int l3), some (.int l4), some (.int l5), some (.int t7.1)]) dX2_mostAlike_48 rfl rfl ?_
      refine x_iload hP dX2_mostAlike_50 rfl ?_
      refine x_iload_n hP dX2_mostAlike_52 rfl ?_
      refine x_icmp_ge hP dX2_mostAlike_53 (tgt := 68) (by decide) (fun c8 => ?_) (fun c8 => ?_)
      · replace hf := p_t c8 hf
        obtain ⟨v9, hv9, hf⟩ := b_lt hf
        refine x_iinc hP (v := v9) (ls2 := [some (.ref l0), some (.ref n1), some (.int l2), some (.int l3), some (.int l4), some (.int v9), some (.int t7.1)]) dX2_mostAlike_68 rfl (by rw [hv9]; rfl) rfl rfl ?_
        refine x_goto hP dX2_mostAlike_71 (tgt := 27) (by decide) ?_
        refine x_drop hP [some (.ref l0), some (.ref n1), some (.int l2), some (.int l3), some (.int l4), some (.int v9), none] (And.intro rfl (And.intro rfl (And.intro rfl (And.intro rfl (And.intro rfl (And.intro rfl trivial)))))) ?_
        exact ih _ _ _ _ _ _ hf hx
      · replace hf := p_f c8 hf
        refine x_iload hP dX2_mostAlike_56 rfl ?_
        refine x_istore_n hP (ls2 := [some (.ref l0), some (.ref n1), some (.int l2), some (.int t7.1), some (.int l4), some (.int l5), some (.int t7.1)]) dX2_mostAlike_58 rfl rfl rfl ?_
        refine x_bipush hP dX2_mostAlike_59 (v := 10) rfl ?_
        refine x_iload hP dX2_mostAlike_61 rfl ?_
        refine x_imul hP dX2_mostAlike_63 ?_
        refine x_iload hP dX2_mostAlike_64 rfl ?_
        refine x_iadd hP dX2_mostAlike_66 ?_
        obtain ⟨v10, hv10, hf⟩ := b_lt hf
        refine y_nmI hv10 ?_
        refine x_istore_n hP (ls2 := [some (.ref l0), some (.ref n1), some (.int v10), some (.int t7.1), some (.int l4), some (.int l5), some (.int t7.1)]) dX2_mostAlike_67 rfl rfl rfl ?_
        obtain ⟨v11, hv11, hf⟩ := b_lt hf
        refine x_iinc hP (v := v11) (ls2 := [some (.ref l0), some (.ref n1), some (.int v10), some (.int t7.1), some (.int l4), some (.int v11), some (.int t7.1)]) dX2_mostAlike_68 rfl (by rw [hv11]; rfl) rfl rfl ?_
        refine x_goto hP dX2_mostAlike_71 (tgt := 27) (by decide) ?_
        refine x_drop hP [some (.ref l0), some (.ref n1), some (.int v10), some (.int t7.1), some (.int l4), some (.int v11), none] (And.intro rfl (And.intro rfl (And.intro rfl (And.intro rfl (And.intro rfl (And.intro rfl trivial)))))) ?_
        exact ih _ _ _ _ _ _ hf hx
set_option maxHeartbeats 1000000 in
set_option maxRecDepth 20000 in
theorem t_X2_mostAlike_L9 {g : GG} {d : Nat} {P : PT} {res : Option RS} (hd : 5 ≤ d) {l0 : Nat} (hl0 : isL l0) {n1 : Nat} (hn1 : isN n1) (hP : IsM g iX2_mostAlike d res P) : ∀ (fu : Nat) (l2 : Int32) (l3 : Int32) (l4 : Int32) (M : Mem) (t : Int32 × Mem), f_X2_mostAlike_L9 l0 n1 fu l2 l3 l4 M = some t → P 80 [none, none, some (.int t.1), none, none, none, none] [] LAY t.2 → P 9 [some (.ref l0), some (.ref n1), some (.int l2), some (.int l3), some (.int l4), none, none] [] LAY M := by
  have hd1 : 1 ≤ d := by omega
  intro fu
  induction fu with
  | zero => intro l2 l3 l4 M t hf; simp [f_X2_mostAlike_L9] at hf
  | succ fu ih =>
    intro l2 l3 l4 M t hf hx
    rw [f_X2_mostAlike_L9] at hf
    refine x_iload hP dX2_mostAlike_9 rfl ?_
    refine x_aload_n hP dX2_mostAlike_11 rfl ?_
    obtain ⟨t1, ht1, hrt1, hf⟩ := b_rT hf
    refine x_getM hP fX2_41 (layN hn1) hrt1 dX2_mostAlike_12 ?_
    refine x_getI hP fX2_45 (layT ht1) dX2_mostAlike_15 ?_
    refine x_icmp_ge hP dX2_mostAlike_18 (tgt := 80) (by decide) (fun c2 => ?_) (fun c2 => ?_)
    · replace hf := p_t c2 hf
      refine x_drop hP [none, none, some (.int l2), none, none, none, none] (And.intro rfl trivial) ?_
      cases hf
      exact hx
    · replace hf := p_f c2 hf
      refine x_iload hP dX2_mostAlike_21 rfl ?_
      refine x_iconst hP dX2_mostAlike_23 (v := 1) rfl ?_
      refine x_iadd hP dX2_mostAlike_24 ?_
      obtain ⟨v3, hv3, hf⟩ := b_lt hf
      refine y_nmI hv3 ?_
      refine x_istore hP (ls2 := [some (.ref l0), some (.ref n1), some (.int l2), some (.int l3), some (.int l4), some (.int v3), none]) dX2_mostAlike_25 rfl rfl ?_
      refine x_drop hP [some (.ref l0), some (.ref n1), some (.int l2), some (.int l3), some (.int l4), some (.int v3), none] (And.intro rfl (And.intro rfl (And.intro rfl (And.intro rfl (And.intro rfl (And.intro rfl trivial)))))) ?_
      obtain ⟨t12, hl13, hf⟩ := b_bd hf
      refine t_X2_mostAlike_L27 hd hl0 hn1 hP _ _ _ _ _ _ _ hl13 ?_
      obtain ⟨v14, hv14, hf⟩ := b_lt hf
      refine x_iinc hP (v := v14) (ls2 := [some (.ref l0), some (.ref n1), some (.int t12.1), some (.int t12.2.1), some (.int v14), none, none]) dX2_mostAlike_74 rfl (by rw [hv14]; rfl) rfl rfl ?_
      refine x_goto hP dX2_mostAlike_77 (tgt := 9) (by decide) ?_
      refine x_drop hP [some (.ref l0), some (.ref n1), some (.int t12.1), some (.int t12.2.1), some (.int v14), none, none] (And.intro rfl (And.intro rfl (And.intro rfl (And.intro rfl (And.intro rfl trivial))))) ?_
      exact ih _ _ _ _ _ hf hx
set_option maxHeartbeats 1000000 in
set_option maxRecDepth 20000 in
theorem t_X2_mostAlike {g : GG} {d : Nat} (hd : 5 ≤ d) {l0 : Nat} (hl0 : isL l0) {n1 : Nat} (hn1 : isN n1) {M : Mem} {r : Int32} {M' : Mem} (hf : f_X2_mostAlike l0 n1 M = some (r, M')) : ExM g d iX2_mostAlike [.ref l0, .ref n1] LAY M (some (.int r), LAY, M') := by
  have hd1 : 1 ≤ d := by omega
  refine ExM.main pnX2 rfl (ls := [some (.ref l0), some (.ref n1), none, none, none, none, none]) rfl ?_
  intro P hP
  rw [f_X2_mostAlike] at hf
  refine x_iconst hP dX2_mostAlike_0 (v := 1) rfl ?_
  refine x_istore_n hP (ls2 := [some (.ref l0), some (.ref n1), some (.int (1 : Int32)), none, none, none, none]) dX2_mostAlike_1 rfl rfl rfl ?_
  refine x_sipush hP dX2_mostAlike_2 (v := 595) rfl ?_
  refine x_istore_n hP (ls2 := [some (.ref l0), some (.ref n1), some (.int (1 : Int32)), some (.int (595 : Int32)), none, none, none]) dX2_mostAlike_5 rfl rfl rfl ?_
  refine x_iconst hP dX2_mostAlike_6 (v := 0) rfl ?_
  refine x_istore hP (ls2 := [some (.ref l0), some (.ref n1), some (.int (1 : Int32)), some (.int (595 : Int32)), some (.int (0 : Int32)), none, none]) dX2_mostAlike_7 rfl rfl ?_
  refine x_drop hP [some (.ref l0), some (.ref n1), some (.int (1 : Int32)), some (.int (595 : Int32)), some (.int (0 : Int32)), none, none] (And.intro rfl (And.intro rfl (And.intro rfl (And.intro rfl (And.intro rfl trivial))))) ?_
  obtain ⟨t15, hl16, hf⟩ := b_bd hf
  refine t_X2_mostAlike_L9 hd hl0 hn1 hP _ _ _ _ _ _ hl16 ?_
  refine x_iload_n hP dX2_mostAlike_80 rfl ?_
  cases hf
  exact x_iret hP rfl dX2_mostAlike_81

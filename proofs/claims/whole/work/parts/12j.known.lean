-- by program: wip/whole/gen/build_parts.py
def f_X1_note (x1 : Int32) (x2 : Int32) (x3 : Int32) (M : Mem) : Option (Mem) :=
  if (20 : Int32) ≤ M.1 53 0 then
    some M
  else
    (pg M 54 20 (M.1 53 0) x1).bind fun M2 =>
    (pg M2 55 20 (M2.1 53 0) x2).bind fun M3 =>
    lt (
      if x3 = 0 then
        (0 : Int32)
      else
        (1 : Int32)
     : Int32) fun t4 =>
    (pg M3 56 20 (M3.1 53 0) t4).bind fun M6 =>
    lt (sI M6 53 0 ((M6.1 53 0) + (1 : Int32))) fun M7 =>
    some M7
set_option maxHeartbeats 1000000 in
set_option maxRecDepth 20000 in
theorem t_X1_note {g : GG} {d : Nat} (hd : 1 ≤ d) {x1 : Int32} {x2 : Int32} {x3 : Int32} {M : Mem} {M' : Mem} (hf : f_X1_note x1 x2 x3 M = some M') : ExM g d iX1_note [.ref 53, .int x1, .int x2, .int x3] LAY M (none, LAY, M') := by
  have hd1 : 1 ≤ d := by omega
  refine ExM.main pnX1 rfl (ls := [some (.ref 53), some (.int x1), some (.int x2), some (.int x3)]) rfl ?_
  intro P hP
  rw [f_X1_note] at hf
  refine x_aload_n hP dX1_note_0 rfl ?_
  refine x_getI hP fX1_21 lay53 dX1_note_1 ?_
  refine x_bipush hP dX1_note_4 (v := 20) rfl ?_
  refine x_icmp_ge hP dX1_note_6 (tgt := 57) (by decide) (fun c1 => ?_) (fun c1 => ?_)
  · replace hf := p_t c1 hf
    cases hf
    exact x_vret hP rfl dX1_note_57
  · replace hf := p_f c1 hf
    refine x_aload_n hP dX1_note_9 rfl ?_
    refine x_getA hP fX1_11 lay53 (r := 54) rfl dX1_note_10 ?_
    refine x_aload_n hP dX1_note_13 rfl ?_
    refine x_getI hP fX1_21 lay53 dX1_note_14 ?_
    refine x_iload_n hP dX1_note_17 rfl ?_
    obtain ⟨M2, hiM2, hM2, hf⟩ := b_pg hf
    refine y_ast hP lay54 hiM2 hM2 dX1_note_18 ?_
    refine x_aload_n hP dX1_note_19 rfl ?_
    refine x_getA hP fX1_15 lay53 (r := 55) rfl dX1_note_20 ?_
    refine x_aload_n hP dX1_note_23 rfl ?_
    refine x_getI hP fX1_21 lay53 dX1_note_24 ?_
    refine x_iload_n hP dX1_note_27 rfl ?_
    obtain ⟨M3, hiM3, hM3, hf⟩ := b_pg hf
    refine y_ast hP lay55 hiM3 hM3 dX1_note_28 ?_
    refine x_aload_n hP dX1_note_29 rfl ?_
    refine x_getA hP fX1_18 lay53 (r := 56) rfl dX1_note_30 ?_
    refine x_aload_n hP dX1_note_33 rfl ?_
    refine x_getI hP fX1_21 lay53 dX1_note_34 ?_
    refine x_iload_n hP dX1_note_37 rfl ?_
    obtain ⟨t4, het4, hf⟩ := b_lt hf
    have hj4 : P 46 [some (.ref 53), none, none, none] [.int t4, .int (M3.1 53 0), .ref 56] LAY M3 := by
      obtain ⟨M6, hiM6, hM6, hf⟩ := b_pg hf
      refine y_ast hP lay56 hiM6 hM6 dX1_note_46 ?_
      refine x_aload_n hP dX1_note_47 rfl ?_
      refine x_dup hP dX1_note_48 rfl ?_
      refine x_getI hP fX1_21 lay53 dX1_note_49 ?_
      refine x_iconst hP dX1_note_52 (v := 1) rfl ?_
      refine x_iadd hP dX1_note_53 ?_
      obtain ⟨M7, hM7, hf⟩ := b_lt hf
      refine y_putI hP fX1_21 lay53 hM7 dX1_note_54 ?_
      cases hf
      exact x_vret hP rfl dX1_note_57
    clear hf
    have hf := het4
    clear het4
    refine x_if_eq hP dX1_note_38 (tgt := 45) (by decide) (fun c5 => ?_) (fun c5 => ?_)
    · replace hf := e_t c5 hf
      refine x_iconst hP dX1_note_45 (v := 0) rfl ?_
      refine x_drop hP [some (.ref 53), none, none, none] (And.intro rfl trivial) ?_
      subst hf
      exact hj4
    · replace hf := e_f c5 hf
      refine x_iconst hP dX1_note_41 (v := 1) rfl ?_
      refine x_goto hP dX1_note_42 (tgt := 46) (by decide) ?_
      refine x_drop hP [some (.ref 53), none, none, none] (And.intro rfl trivial) ?_
      subst hf
      exact hj4
def f_X1_isFitting_L3 (l1 : Nat) (n2 : Nat) (k : Mem → Option (Int32 × Mem)) : Nat → Int32 → Int32 → Int32 → Mem → Option (Int32 × Mem)
  | 0, _, _, _, _ => none
  | fu + 1, l3, l4, l5, M =>
    if l3 ≤ l5 then
      k M
    else
      if M.1 53 0 ≤ l5 then
        k M
      else
        (ag M 54 20 l5).bind fun v3 =>
        (f_X2_glowIfTold l1 n2 v3 l4 M).bind fun t5 =>
        (ag t5.2 55 20 l5).bind fun v6 =>
        lt (
          if t5.1 < v6 then
            (0 : Int32)
          else
            (1 : Int32)
         : Int32) fun t7 =>
        (ag t5.2 56 20 l5).bind fun v9 =>
        lt (
          if v9 = (1 : Int32) then
            (1 : Int32)
          else
            (0 : Int32)
         : Int32) fun t10 =>
        if t7 = t10 then
          lt (l5 + 1 : Int32) fun v13 =>
          f_X1_isFitting_L3 l1 n2 k fu l3 l4 v13 t5.2
        else
          some ((0 : Int32), t5.2)
def f_X1_isFitting (l1 : Nat) (n2 : Nat) (x3 : Int32) (x4 : Int32) (M : Mem) : Option (Int32 × Mem) :=
  f_X1_isFitting_L3 l1 n2 (fun t14 =>
      some ((1 : Int32), t14)
    ) FU x3 x4 (0 : Int32) M
set_option maxHeartbeats 1000000 in
set_option maxRecDepth 20000 in
theorem t_X1_isFitting_L3 {g : GG} {d : Nat} {P : PT} {r : Int32} {M' : Mem} (hd : 4 ≤ d) {l1 : Nat} (hl1 : isL l1) {n2 : Nat} (hn2 : isN n2) {l3 : Int32} {l4 : Int32} (hP : IsM g iX1_isFitting d (some (some (.int r), LAY, M')) P) {k : Mem → Option (Int32 × Mem)} (hk : ∀ t : Mem, k t = some (r, M') → P 78 [none, none, none, none, none, none, none] [] LAY t) : ∀ (fu : Nat) (l5 : Int32) (M : Mem), f_X1_isFitting_L3 l1 n2 k fu l3 l4 l5 M = some (r, M') → P 3 [some (.ref 53), some (.ref l1), some (.ref n2), some (.int l3), some (.int l4), some (.int l5), none] [] LAY M := by
  have hd1 : 1 ≤ d := by omega
  intro fu
  induction fu with
  | zero => intro l5 M hf; simp [f_X1_isFitting_L3] at hf
  | succ fu ih =>
    intro l5 M hf
    rw [f_X1_isFitting_L3] at hf
    refine x_iload hP dX1_isFitting_3 rfl ?_
    refine x_iload_n hP dX1_isFitting_5 rfl ?_
    refine x_icmp_ge hP dX1_isFitting_6 (tgt := 78) (by decide) (fun c1 => ?_) (fun c1 => ?_)
    · replace hf := p_t c1 hf
      refine x_drop hP [none, none, none, none, none, none, none] trivial ?_
      exact hk _ hf
    · replace hf := p_f c1 hf
      refine x_iload hP dX1_isFitting_9 rfl ?_
      refine x_aload_n hP dX1_isFitting_11 rfl ?_
      refine x_getI hP fX1_21 lay53 dX1_isFitting_12 ?_
      refine x_icmp_ge hP dX1_isFitting_15 (tgt := 78) (by decide) (fun c2 => ?_) (fun c2 => ?_)
      · replace hf := p_t c2 hf
        refine x_drop hP [none, none, none, none, none, none, none] trivial ?_
        exact hk _ hf
      · replace hf := p_f c2 hf
        refine x_aload_n hP dX1_isFitting_18 rfl ?_
        refine x_aload_n hP dX1_isFitting_19 rfl ?_
        refine x_aload_n hP dX1_isFitting_20 rfl ?_
        refine x_getA hP fX1_11 lay53 (r := 54) rfl dX1_isFitting_21 ?_
        refine x_iload hP dX1_isFitting_24 rfl ?_
        obtain ⟨v3, hiv3, hv3, hf⟩ := b_ag hf
        refine y_ald hP lay54 hiv3 hv3 dX1_isFitting_26 ?_
        refine x_iload hP dX1_isFitting_27 rfl ?_
        obtain ⟨t5, hc4, hf⟩ := b_bd hf
        refine y_cvi hP oX2_glowIfTold lX1_51 [.ref n2, .int v3, .int l4] [] rfl rfl rfl (layL hl1) dX1_isFitting_29 (t_X2_glowIfTold (d := d - 1) (by omega) hl1 hn2 hc4) (by omega) ?_
        refine x_aload_n hP dX1_isFitting_32 rfl ?_
        refine x_getA hP fX1_15 lay53 (r := 55) rfl dX1_isFitting_33 ?_
        refine x_iload hP dX1_isFitting_36 rfl ?_
        obtain ⟨v6, hiv6, hv6, hf⟩ := b_ag hf
        refine y_ald hP lay55 hiv6 hv6 dX1_isFitting_38 ?_
        obtain ⟨t7, het7, hf⟩ := b_lt hf
        have hj7 : P 47 [some (.ref 53), some (.ref l1), some (.ref n2), some (.int l3), some (.int l4), some (.int l5), none] [.int t7] LAY t5.2 := by
          refine x_istore hP (ls2 := [some (.ref 53), some (.ref l1), some (.ref n2), some (.int l3), some (.int l4), some (.int l5), some (.int t7)]) dX1_isFitting_47 rfl rfl ?_
          refine x_iload hP dX1_isFitting_49 rfl ?_
          refine x_aload_n hP dX1_isFitting_51 rfl ?_
          refine x_getA hP fX1_18 lay53 (r := 56) rfl dX1_isFitting_52 ?_
          refine x_iload hP dX1_isFitting_55 rfl ?_
          obtain ⟨v9, hiv9, hv9, hf⟩ := b_ag hf
          refine y_ald hP lay56 hiv9 hv9 dX1_isFitting_57 ?_
          refine x_iconst hP dX1_isFitting_58 (v := 1) rfl ?_
          obtain ⟨t10, het10, hf⟩ := b_lt hf
          have hj10 : P 67 [some (.ref 53), some (.ref l1), some (.ref n2), some (.int l3), some (.int l4), some (.int l5), none] [.int t10, .int t7] LAY t5.2 := by
            refine x_icmp_eq hP dX1_isFitting_67 (tgt := 72) (by decide) (fun c12 => ?_) (fun c12 => ?_)
            · replace hf := p_t c12 hf
              obtain ⟨v13, hv13, hf⟩ := b_lt hf
              refine x_iinc hP (v := v13) (ls2 := [some (.ref 53), some (.ref l1), some (.ref n2), some (.int l3), some (.int l4), some (.int v13), none]) dX1_isFitting_72 rfl (by rw [hv13]; rfl) rfl rfl ?_
              refine x_goto hP dX1_isFitting_75 (tgt := 3) (by decide) ?_
              refine x_drop hP [some (.ref 53), some (.ref l1), some (.ref n2), some (.int l3), some (.int l4), some (.int v13), none] (And.intro rfl (And.intro rfl (And.intro rfl (And.intro rfl (And.intro rfl (And.intro rfl trivial)))))) ?_
              exact ih _ _ hf
            · replace hf := p_f c12 hf
              refine x_iconst hP dX1_isFitting_70 (v := 0) rfl ?_
              cases hf
              exact x_zret hP rfl (Or.inl rfl) dX1_isFitting_71
          clear hf
          have hf := het10
          clear het10
          refine x_icmp_ne hP dX1_isFitting_59 (tgt := 66) (by decide) (fun c11 => ?_) (fun c11 => ?_)
          · replace hf := e_f c11 hf
            refine x_iconst hP dX1_isFitting_66 (v := 0) rfl ?_
            refine x_drop hP [some (.ref 53), some (.ref l1), some (.ref n2), some (.int l3), some (.int l4), some (.int l5), none] (And.intro rfl (And.intro rfl (And.intro rfl (And.intro rfl (And.intro rfl (And.intro rfl trivial)))))) ?_
            subst hf
            exact hj10
          · replace hf := e_t c11 hf
            refine x_iconst hP dX1_isFitting_62 (v := 1) rfl ?_
            refine x_goto hP dX1_isFitting_63 (tgt := 67) (by decide) ?_
            refine x_drop hP [some (.ref 53), some (.ref l1), some (.ref n2), some (.int l3), some (.int l4), some (.int l5), none] (And.intro rfl (And.intro rfl (And.intro rfl (And.intro rfl (And.intro rfl (And.intro rfl trivial)))))) ?_
            subst hf
            exact hj10
        clear hf
        have hf := het7
        clear het7
        refine x_icmp_lt hP dX1_isFitting_39 (tgt := 46) (by decide) (fun c8 => ?_) (fun c8 => ?_)
        · replace hf := e_t c8 hf
          refine x_iconst hP dX1_isFitting_46 (v := 0) rfl ?_
          refine x_drop hP [some (.ref 53), some (.ref l1), some (.ref n2), some (.int l3), some (.int l4), some (.int l5), none] (And.intro rfl (And.intro rfl (And.intro rfl (And.intro rfl (And.intro rfl (And.intro rfl trivial)))))) ?_
          subst hf
          exact hj7
        · replace hf := e_f c8 hf
          refine x_iconst hP dX1_isFitting_42 (v := 1) rfl ?_
          refine x_goto hP dX1_isFitting_43 (tgt := 47) (by decide) ?_
          refine x_drop hP [some (.ref 53), some (.ref l1), some (.ref n2), some (.int l3), some (.int l4), some (.int l5), none] (And.intro rfl (And.intro rfl (And.intro rfl (And.intro rfl (And.intro rfl (And.intro rfl trivial)))))) ?_
          subst hf
          exact hj7
set_option maxHeartbeats 1000000 in
set_option maxRecDepth 20000 in
theorem t_X1_isFitting {g : GG} {d : Nat} (hd : 4 ≤ d) {l1 : Nat} (hl1 : isL l1) {n2 : Nat} (hn2 : isN n2) {x3 : Int32} {x4 : Int32} {M : Mem} {r : Int32} {M' : Mem} (hf : f_X1_isFitting l1 n2 x3 x4 M = some (r, M')) : ExM g d iX1_isFitting [.ref 53, .ref l1, .ref n2, .int x3, .int x4] LAY M (some (.int r), LAY, M') := by
  have hd1 : 1 ≤ d := by omega
  refine ExM.main pnX1 rfl (ls := [some (.ref 53), some (.ref l1), some (.ref n2), some (.int x3), some (.int x4), none, none]) rfl ?_
  intro P hP
  rw [f_X1_isFitting] at hf
  refine x_iconst hP dX1_isFitting_0 (v := 0) rfl ?_
  refine x_istore hP (ls2 := [some (.ref 53), some (.ref l1), some (.ref n2), some (.int x3), some (.int x4), some (.int (0 : Int32)), none]) dX1_isFitting_1 rfl rfl ?_
  refine x_drop hP [some (.ref 53), some (.ref l1), some (.ref n2), some (.int x3), some (.int x4), some (.int (0 : Int32)), none] (And.intro rfl (And.intro rfl (And.intro rfl (And.intro rfl (And.intro rfl (And.intro rfl trivial)))))) ?_
  refine t_X1_isFitting_L3 hd hl1 hn2 hP (fun t14 hf => ?_) _ _ _ hf
  refine x_iconst hP dX1_isFitting_78 (v := 1) rfl ?_
  cases hf
  exact x_zret hP rfl (Or.inr rfl) dX1_isFitting_79
def f_X1_fitting_L6 (l1 : Nat) (n2 : Nat) : Nat → Int32 → Int32 → Int32 → Mem → Option (Int32 × Mem)
  | 0, _, _, _, _ => none
  | fu + 1, l3, l4, l5, M =>
    (rT M n2 0).bind fun t1 =>
    if M.1 t1 13 ≤ l5 then
      some (l4, M)
    else
      (f_X1_isFitting l1 n2 l3 l5 M).bind fun t4 =>
      if t4.1 = 0 then
        lt (l5 + 1 : Int32) fun v6 =>
        f_X1_fitting_L6 l1 n2 fu l3 l4 v6 t4.2
      else
        lt (l4 ||| ((1 : Int32) <<< (l5 &&& 31)) : Int32) fun v7 =>
        lt (l5 + 1 : Int32) fun v8 =>
        f_X1_fitting_L6 l1 n2 fu l3 v7 v8 t4.2
def f_X1_fitting (l1 : Nat) (n2 : Nat) (x3 : Int32) (M : Mem) : Option (Int32 × Mem) :=
  (f_X1_fitting_L6 l1 n2 FU x3 (0 : Int32) (0 : Int32) M).bind fun t9 =>
  some (t9.1, t9.2)
set_option maxHeartbeats 1000000 in
set_option maxRecDepth 20000 in
theorem t_X1_fitting_L6 {g : GG} {d : Nat} {P : PT} {res : Option RS} (hd : 5 ≤ d) {l1 : Nat} (hl1 : isL l1) {n2 : Nat} (hn2 : isN n2) (hP : IsM g iX1_fitting d res P) : ∀ (fu : Nat) (l3 : Int32) (l4 : Int32) (l5 : Int32) (M : Mem) (t : Int32 × Mem), f_X1_fitting_L6 l1 n2 fu l3 l4 l5 M = some t → P 45 [none, none, none, none, some (.int t.1), none] [] LAY t.2 → P 6 [some (.ref 53), some (.ref l1), some (.ref n2), some (.int l3), some (.int l4), some (.int l5)] [] LAY M := by
  have hd1 : 1 ≤ d := by omega
  intro fu
  induction fu with
  | zero => intro l3 l4 l5 M t hf; simp [f_X1_fitting_L6] at hf
  | succ fu ih =>
    intro l3 l4 l5 M t hf hx
    rw [f_X1_fitting_L6] at hf
    refine x_iload hP dX1_fitting_6 rfl ?_
    refine x_aload_n hP dX1_fitting_8 rfl ?_
    obtain ⟨t1, ht1, hrt1, hf⟩ := b_rT hf
    refine x_getM hP fX1_25 (layN hn2) hrt1 dX1_fitting_9 ?_
    refine x_getI hP fX1_31 (layT ht1) dX1_fitting_12 ?_
    refine x_icmp_ge hP dX1_fitting_15 (tgt := 45) (by decide) (fun c2 => ?_) (fun c2 => ?_)
    · replace hf := p_t c2 hf
      refine x_drop hP [none, none, none, none, some (.int l4), none] (And.intro rfl trivial) ?_
      cases hf
      exact hx
    · replace hf := p_f c2 hf
      refine x_aload_n hP dX1_fitting_18 rfl ?_
      refine x_aload_n hP dX1_fitting_19 rfl ?_
      refine x_aload_n hP dX1_fitting_20 rfl ?_
      refine x_iload_n hP dX1_fitting_21 rfl ?_
      refine x_iload hP dX1_fitting_22 rfl ?_
      obtain ⟨t4, hc3, hf⟩ := b_bd hf
      refine y_cvi hP oX1_isFitting lX1_36 [.ref l1, .ref n2, .int l3, .int l5] [] rfl rfl rfl lay53 dX1_fitting_24 (t_X1_isFitting (d := d - 1) (by omega) hl1 hn2 hc3) (by omega) ?_
      refine x_if_eq hP dX1_fitting_27 (tgt := 39) (by decide) (fun c5 => ?_) (fun c5 => ?_)
      · replace hf := p_t c5 hf
        obtain ⟨v6, hv6, hf⟩ := b_lt hf
        refine x_iinc hP (v := v6) (ls2 := [some (.ref 53), some (.ref l1), some (.ref n2), some (.int l3), some (.int l4), some (.int v6)]) dX1_fitting_39 rfl (by rw [hv6]; rfl) rfl rfl ?_
        refine x_goto hP dX1_fitting_42 (tgt := 6) (by decide) ?_
        refine x_drop hP [some (.ref 53), some (.ref l1), some (.ref n2), some (.int l3), some (.int l4), some (.int v6)] (And.intro rfl (And.intro rfl (And.intro rfl (And.intro rfl (And.intro rfl (And.intro rfl trivial)))))) ?_
        exact ih _ _ _ _ _ hf hx
      · replace hf := p_f c5 hf
        refine x_iload hP dX1_fitting_30 rfl ?_
        refine x_iconst hP dX1_fitting_32 (v := 1) rfl ?_
        refine x_iload hP dX1_fitting_33 rfl ?_
        refine x_ishl hP dX1_fitting_35 ?_
        refine x_ior hP dX1_fitting_36 ?_
        obtain ⟨v7, hv7, hf⟩ := b_lt hf
        refine y_nmI hv7 ?_
        refine x_istore hP (ls2 := [some (.ref 53), some (.ref l1), some (.ref n2), some (.int l3), some (.int v7), some (.int l5)]) dX1_fitting_37 rfl rfl ?_
        obtain ⟨v8, hv8, hf⟩ := b_lt hf
        refine x_iinc hP (v := v8) (ls2 := [some (.ref 53), some (.ref l1), some (.ref n2), some (.int l3), some (.int v7), some (.int v8)]) dX1_fitting_39 rfl (by rw [hv8]; rfl) rfl rfl ?_
        refine x_goto hP dX1_fitting_42 (tgt := 6) (by decide) ?_
        refine x_drop hP [some (.ref 53), some (.ref l1), some (.ref n2), some (.int l3), some (.int v7), some (.int v8)] (And.intro rfl (And.intro rfl (And.intro rfl (And.intro rfl (And.intro rfl (And.intro rfl trivial)))))) ?_
        exact ih _ _ _ _ _ hf hx
set_option maxHeartbeats 1000000 in
set_option maxRecDepth 20000 in
theorem t_X1_fitting {g : GG} {d : Nat} (hd : 5 ≤ d) {l1 : Nat} (hl1 : isL l1) {n2 : Nat} (hn2 : isN n2) {x3 : Int32} {M : Mem} {r : Int32} {M' : Mem} (hf : f_X1_fitting l1 n2 x3 M = some (r, M')) : ExM g d iX1_fitting [.ref 53, .ref l1, .ref n2, .int x3] LAY M (some (.int r), LAY, M') := by
  have hd1 : 1 ≤ d := by omega
  refine ExM.main pnX1 rfl (ls := [some (.ref 53), some (.ref l1), some (.ref n2), some (.int x3), none, none]) rfl ?_
  intro P hP
  rw [f_X1_fitting] at hf
  refine x_iconst hP dX1_fitting_0 (v := 0) rfl ?_
  refine x_istore hP (ls2 := [some (.ref 53), some (.ref l1), some (.ref n2), some (.int x3), some (.int (0 : Int32)), none]) dX1_fitting_1 rfl rfl ?_
  refine x_iconst hP dX1_fitting_3 (v := 0) rfl ?_
  refine x_istore hP (ls2 := [some (.ref 53), some (.ref l1), some (.ref n2), some (.int x3), some (.int (0 : Int32)), some (.int (0 : Int32))]) dX1_fitting_4 rfl rfl ?_
  refine x_drop hP [some (.ref 53), some (.ref l1), some (.ref n2), some (.int x3), some (.int (0 : Int32)), some (.int (0 : Int32))] (And.intro rfl (And.intro rfl (And.intro rfl (And.intro rfl (And.intro rfl (And.intro rfl trivial)))))) ?_
  obtain ⟨t9, hl10, hf⟩ := b_bd hf
  refine t_X1_fitting_L6 hd hl1 hn2 hP _ _ _ _ _ _ hl10 ?_
  refine x_iload hP dX1_fitting_45 rfl ?_
  cases hf
  exact x_iret hP rfl dX1_fitting_47
def f_X1_leftAtWorst_L6 (l0 : Nat) (n1 : Nat) : Nat → Int32 → Int32 → Int32 → Int32 → Int32 → Mem → Option (Int32 × Mem)
  | 0, _, _, _, _, _, _ => none
  | fu + 1, l2, l3, l4, l5, l6, M =>
    (rT M n1 0).bind fun t1 =>
    if M.1 t1 13 ≤ l6 then
      some (l5, M)
    else
      if (l2 >>> (l6 &&& 31)) &&& (1 : Int32) = (1 : Int32) then
        (f_X2_glowIfTold l0 n1 l3 l6 M).bind fun t5 =>
        if t5.1 < l4 then
          lt (l6 + 1 : Int32) fun v7 =>
          f_X1_leftAtWorst_L6 l0 n1 fu l2 l3 l4 l5 v7 t5.2
        else
          lt (l5 + 1 : Int32) fun v8 =>
          lt (l6 + 1 : Int32) fun v9 =>
          f_X1_leftAtWorst_L6 l0 n1 fu l2 l3 l4 v8 v9 t5.2
      else
        lt (l6 + 1 : Int32) fun v10 =>
        f_X1_leftAtWorst_L6 l0 n1 fu l2 l3 l4 l5 v10 M
def f_X1_leftAtWorst (l0 : Nat) (n1 : Nat) (x2 : Int32) (x3 : Int32) (x4 : Int32) (M : Mem) : Option (Int32 × Mem) :=
  (f_X1_leftAtWorst_L6 l0 n1 FU x2 x3 x4 (0 : Int32) (0 : Int32) M).bind fun t11 =>
  (f_J6_bitCount_0f7a4 x2).bind fun v14 =>
  lt (if t11.1 < v14 - t11.1 then v14 - t11.1 else t11.1 : Int32) fun v15 =>
  some (v15, t11.2)
set_option maxHeartbeats 1000000 in
set_option maxRecDepth 20000 in
theorem t_X1_leftAtWorst_L6 {g : GG} {d : Nat} {P : PT} {res : Option RS} (hd : 4 ≤ d) {l0 : Nat} (hl0 : isL l0) {n1 : Nat} (hn1 : isN n1) (hP : IsM g iX1_leftAtWorst d res P) : ∀ (fu : Nat) (l2 : Int32) (l3 : Int32) (l4 : Int32) (l5 : Int32) (l6 : Int32) (M : Mem) (t : Int32 × Mem), f_X1_leftAtWorst_L6 l0 n1 fu l2 l3 l4 l5 l6 M = some t → P 50 [none, none, some (.int l2), none, none, some (.int t.1), none] [] LAY t.2 → P 6 [some (.ref l0), some (.ref n1), some (.int l2), some (.int l3), some (.int l4), some (.int l5), some (.int l6)] [] LAY M := by
  have hd1 : 1 ≤ d := by omega
  intro fu
  induction fu with
  | zero => intro l2 l3 l4 l5 l6 M t hf; simp [f_X1_leftAtWorst_L6] at hf
  | succ fu ih =>
    intro l2 l3 l4 l5 l6 M t hf hx
    rw [f_X1_leftAtWorst_L6] at hf
    refine x_iload hP dX1_leftAtWorst_6 rfl ?_
    refine x_aload_n hP dX1_leftAtWorst_8 rfl ?_
    obtain ⟨t1, ht1, hrt1, hf⟩ := b_rT hf
    refine x_getM hP fX1_25 (layN hn1) hrt1 dX1_leftAtWorst_9 ?_
    refine x_getI hP fX1_31 (layT ht1) dX1_leftAtWorst_12 ?_
    refine x_icmp_ge hP dX1_leftAtWorst_15 (tgt := 50) (by decide) (fun c2 => ?_) (fun c2 => ?_)
    · replace hf := p_t c2 hf
      refine x_drop hP [none, none, some (.int l2), none, none, some (.int l5), none] (And.intro rfl (And.intro rfl trivial)) ?_
      cases hf
      exact hx
    · replace hf := p_f c2 hf
      refine x_iload_n hP dX1_leftAtWorst_18 rfl ?_
      refine x_iload hP dX1_leftAtWorst_19 rfl ?_
      refine x_ishr hP dX1_leftAtWorst_21 ?_
      refine x_iconst hP dX1_leftAtWorst_22 (v := 1) rfl ?_
      refine x_iand hP dX1_leftAtWorst_23 ?_
      refine x_iconst hP dX1_leftAtWorst_24 (v := 1) rfl ?_
      refine x_icmp_ne hP dX1_leftAtWorst_25 (tgt := 44) (by decide) (fun c3 => ?_) (fun c3 => ?_)
      · replace hf := p_f c3 hf
        obtain ⟨v10, hv10, hf⟩ := b_lt hf
        refine x_iinc hP (v := v10) (ls2 := [some (.ref l0), some (.ref n1), some (.int l2), some (.int l3), some (.int l4), some (.int l5), some (.int v10)]) dX1_leftAtWorst_44 rfl (by rw [hv10]; rfl) rfl rfl ?_
        refine x_goto hP dX1_leftAtWorst_47 (tgt := 6) (by decide) ?_
        refine x_drop hP [some (.ref l0), some (.ref n1), some (.int l2), some (.int l3), some (.int l4), some (.int l5), some (.int v10)] (And.intro rfl (And.intro rfl (And.intro rfl (And.intro rfl (And.intro rfl (And.intro rfl (And.intro rfl trivial))))))) ?_
        exact ih _ _ _ _ _ _ _ hf hx
      · replace hf := p_t c3 hf
        refine x_aload_n hP dX1_leftAtWorst_28 rfl ?_
        refine x_aload_n hP dX1_leftAtWorst_29 rfl ?_
        refine x_iload_n hP dX1_leftAtWorst_30 rfl ?_
        refine x_iload hP dX1_leftAtWorst_31 rfl ?_
        obtain ⟨t5, hc4, hf⟩ := b_bd hf
        refine y_cvi hP oX2_glowIfTold lX1_51 [.ref n1, .int l3, .int l6] [] rfl rfl rfl (layL hl0) dX1_leftAtWorst_33 (t_X2_glowIfTold (d := d - 1) (by omega) hl0 hn1 hc4) (by omega) ?_
        refine x_iload hP dX1_leftAtWorst_36 rfl ?_
        refine x_icmp_lt hP dX1_leftAtWorst_38 (tgt := 44) (by decide) (fun c6 => ?_) (fun c6 => ?_)
        · replace hf := p_t c6 hf
          obtain ⟨v7, hv7, hf⟩ := b_lt hf
          refine x_iinc hP (v := v7) (ls2 := [some (.ref l0), some (.ref n1), some (.int l2), some (.int l3), some (.int l4), some (.int l5), some (.int v7)]) dX1_leftAtWorst_44 rfl (by rw [hv7]; rfl) rfl rfl ?_
          refine x_goto hP dX1_leftAtWorst_47 (tgt := 6) (by decide) ?_
          refine x_drop hP [some (.ref l0), some (.ref n1), some (.int l2), some (.int l3), some (.int l4), some (.int l5), some (.int v7)] (And.intro rfl (And.intro rfl (And.intro rfl (And.intro rfl (And.intro rfl (And.intro rfl (And.intro rfl trivial))))))) ?_
          exact ih _ _ _ _ _ _ _ hf hx
        · replace hf := p_f c6 hf
          obtain ⟨v8, hv8, hf⟩ := b_lt hf
          refine x_iinc hP (v := v8) (ls2 := [some (.ref l0), some (.ref n1), some (.int l2), some (.int l3), some (.int l4), some (.int v8), some (.int l6)]) dX1_leftAtWorst_41 rfl (by rw [hv8]; rfl) rfl rfl ?_
          obtain ⟨v9, hv9, hf⟩ := b_lt hf
          refine x_iinc hP (v := v9) (ls2 := [some (.ref l0), some (.ref n1), some (.int l2), some (.int l3), some (.int l4), some (.int v8), some (.int v9)]) dX1_leftAtWorst_44 rfl (by rw [hv9]; rfl) rfl rfl ?_
          refine x_goto hP dX1_leftAtWorst_47 (tgt := 6) (by decide) ?_
          refine x_drop hP [some (.ref l0), some (.ref n1), some (.int l2), some (.int l3), some (.int l4), some (.int v8), some (.int v9)] (And.intro rfl (And.intro rfl (And.intro rfl (And.intro rfl (And.intro rfl (And.intro rfl (And.intro rfl trivial))))))) ?_
          exact ih _ _ _ _ _ _ _ hf hx
set_option maxHeartbeats 1000000 in
set_option maxRecDepth 20000 in
theorem t_X1_leftAtWorst {g : GG} {d : Nat} (hd : 4 ≤ d) {l0 : Nat} (hl0 : isL l0) {n1 : Nat} (hn1 : isN n1) {x2 : Int32} {x3 : Int32} {x4 : Int32} {M : Mem} {r : Int32} {M' : Mem} (hf : f_X1_leftAtWorst l0 n1 x2 x3 x4 M = some (r, M')) : ExM g d iX1_leftAtWorst [.ref l0, .ref n1, .int x2, .int x3, .int x4] LAY M (some (.int r), LAY, M') := by
  have hd1 : 1 ≤ d := by omega
  refine ExM.main pnX1 rfl (ls := [some (.ref l0), some (.ref n1), some (.int x2), some (.int x3), some (.int x4), none, none]) rfl ?_
  intro P hP
  rw [f_X1_leftAtWorst] at hf
  refine x_iconst hP dX1_leftAtWorst_0 (v := 0) rfl ?_
  refine x_istore hP (ls2 := [some (.ref l0), some (.ref n1), some (.int x2), some (.int x3), some (.int x4), some (.int (0 : Int32)), none]) dX1_leftAtWorst_1 rfl rfl ?_
  refine x_iconst hP dX1_leftAtWorst_3 (v := 0) rfl ?_
  refine x_istore hP (ls2 := [some (.ref l0), some (.ref n1), some (.int x2), some (.int x3), some (.int x4), some (.int (0 : Int32)), some (.int (0 : Int32))]) dX1_leftAtWorst_4 rfl rfl ?_
  refine x_drop hP [some (.ref l0), some (.ref n1), some (.int x2), some (.int x3), some (.int x4), some (.int (0 : Int32)), some (.int (0 : Int32))] (And.intro rfl (And.intro rfl (And.intro rfl (And.intro rfl (And.intro rfl (And.intro rfl (And.intro rfl trivial))))))) ?_
  obtain ⟨t11, hl12, hf⟩ := b_bd hf
  refine t_X1_leftAtWorst_L6 hd hl0 hn1 hP _ _ _ _ _ _ _ _ hl12 ?_
  refine x_iload hP dX1_leftAtWorst_50 rfl ?_
  refine x_iload_n hP dX1_leftAtWorst_52 rfl ?_
  obtain ⟨v14, hc13, hf⟩ := b_bd hf
  refine y_csi hP oJ6_bitCount_0f7a4 lX1_57 [.int x2] [.int t11.1] rfl rfl rfl dX1_leftAtWorst_53 (t_J6_bitCount_0f7a4 (d := d - 1) (by omega) hc13) (by omega) ?_
  refine x_iload hP dX1_leftAtWorst_56 rfl ?_
  refine x_isub hP dX1_leftAtWorst_58 ?_
  refine y_max hP lX1_63 rfl hd1 dX1_leftAtWorst_59 ?_
  obtain ⟨v15, hv15, hf⟩ := b_lt hf
  refine y_nmI hv15 ?_
  cases hf
  exact x_iret hP rfl dX1_leftAtWorst_62
def f_X1_mostTelling_L11 (l0 : Nat) (n1 : Nat) : Nat → Int32 → Int32 → Int32 → Int32 → Int32 → Mem → Option (Int32 × Mem)
  | 0, _, _, _, _, _, _ => none
  | fu + 1, l2, l3, l4, l5, l6, M =>
    (rT M n1 0).bind fun t1 =>
    if M.1 t1 12 ≤ l6 then
      some (l4, M)
    else
      (f_X3_isHome n1 l6 M).bind fun v4 =>
      (
        if v4 = 0 then
          (f_X1_leftAtWorst l0 n1 l2 l6 l3 M).bind fun t8 =>
          some (t8.1, t8.2)
        else
          some (l5, M)
      ).bind fun t5 =>
      if l5 ≤ t5.1 then
        lt (l6 + 1 : Int32) fun v10 =>
        f_X1_mostTelling_L11 l0 n1 fu l2 l3 l4 l5 v10 t5.2
      else
        lt (l6 + 1 : Int32) fun v11 =>
        f_X1_mostTelling_L11 l0 n1 fu l2 l3 l6 t5.1 v11 t5.2
def f_X1_mostTelling (l0 : Nat) (n1 : Nat) (x2 : Int32) (x3 : Int32) (M : Mem) : Option (Int32 × Mem) :=
  (f_X1_mostTelling_L11 l0 n1 FU x2 x3 (-2 : Int32) (6 : Int32) (0 : Int32) M).bind fun t12 =>
  some (t12.1, t12.2)
set_option maxHeartbeats 1000000 in
set_option maxRecDepth 20000 in
theorem t_X1_mostTelling_L11 {g : GG} {d : Nat} {P : PT} {res : Option RS} (hd : 5 ≤ d) {l0 : Nat} (hl0 : isL l0) {n1 : Nat} (hn1 : isN n1) (hP : IsM g iX1_mostTelling d res P) : ∀ (fu : Nat) (l2 : Int32) (l3 : Int32) (l4 : Int32) (l5 : Int32) (l6 : Int32) (M : Mem) (t : Int32 × Mem), f_X1_mostTelling_L11 l0 n1 fu l2 l3 l4 l5 l6 M = some t → P 69 [none, none, none, none, some (.int t.1), none, none, none] [] LAY t.2 → P 11 [some (.ref l0), some (.ref n1), some (.int l2), some (.int l3), some (.int l4), some (.int l5), some (.int l6), none] [] LAY M := by
  have hd1 : 1 ≤ d := by omega
  intro fu
  induction fu with
  | zero => intro l2 l3 l4 l5 l6 M t hf; simp [f_X1_mostTelling_L11] at hf
  | succ fu ih =>
    intro l2 l3 l4 l5 l6 M t hf hx
    rw [f_X1_mostTelling_L11] at hf
    refine x_iload hP dX1_mostTelling_11 rfl ?_
    refine x_aload_n hP dX1_mostTelling_13 rfl ?_
    obtain ⟨t1, ht1, hrt1, hf⟩ := b_rT hf
    refine x_getM hP fX1_25 (layN hn1) hrt1 dX1_mostTelling_14 ?_
    refine x_getI hP fX1_40 (layT ht1) dX1_mostTelling_17 ?_
    refine x_icmp_ge hP dX1_mostTelling_20 (tgt := 69) (by decide) (fun c2 => ?_) (fun c2 => ?_)
    · replace hf := p_t c2 hf
      refine x_drop hP [none, none, none, none, some (.int l4), none, none, none] (And.intro rfl trivial) ?_
      cases hf
      exact hx
    · replace hf := p_f c2 hf
      refine x_aload_n hP dX1_mostTelling_23 rfl ?_
      refine x_iload hP dX1_mostTelling_24 rfl ?_
      obtain ⟨v4, hc3, hf⟩ := b_bd hf
      refine y_cvi hP oX3_isHome lX1_43 [.int l6] [] rfl rfl rfl (layN hn1) dX1_mostTelling_26 (t_X3_isHome (d := d - 1) (by omega) hn1 hc3) (by omega) ?_
      obtain ⟨t5, het5, hf⟩ := b_bd hf
      have hj5 : P 46 [some (.ref l0), some (.ref n1), some (.int l2), some (.int l3), some (.int l4), some (.int l5), some (.int l6), none] [.int t5.1] LAY t5.2 := by
        refine x_istore hP (ls2 := [some (.ref l0), some (.ref n1), some (.int l2), some (.int l3), some (.int l4), some (.int l5), some (.int l6), some (.int t5.1)]) dX1_mostTelling_46 rfl rfl ?_
        refine x_iload hP dX1_mostTelling_48 rfl ?_
        refine x_iload hP dX1_mostTelling_50 rfl ?_
        refine x_icmp_ge hP dX1_mostTelling_52 (tgt := 63) (by decide) (fun c9 => ?_) (fun c9 => ?_)
        · replace hf := p_t c9 hf
          obtain ⟨v10, hv10, hf⟩ := b_lt hf
          refine x_iinc hP (v := v10) (ls2 := [some (.ref l0), some (.ref n1), some (.int l2), some (.int l3), some (.int l4), some (.int l5), some (.int v10), some (.int t5.1)]) dX1_mostTelling_63 rfl (by rw [hv10]; rfl) rfl rfl ?_
          refine x_goto hP dX1_mostTelling_66 (tgt := 11) (by decide) ?_
          refine x_drop hP [some (.ref l0), some (.ref n1), some (.int l2), some (.int l3), some (.int l4), some (.int l5), some (.int v10), none] (And.intro rfl (And.intro rfl (And.intro rfl (And.intro rfl (And.intro rfl (And.intro rfl (And.intro rfl trivial))))))) ?_
          exact ih _ _ _ _ _ _ _ hf hx
        · replace hf := p_f c9 hf
          refine x_iload hP dX1_mostTelling_55 rfl ?_
          refine x_istore hP (ls2 := [some (.ref l0), some (.ref n1), some (.int l2), some (.int l3), some (.int l4), some (.int t5.1), some (.int l6), some (.int t5.1)]) dX1_mostTelling_57 rfl rfl ?_
          refine x_iload hP dX1_mostTelling_59 rfl ?_
          refine x_istore hP (ls2 := [some (.ref l0), some (.ref n1), some (.int l2), some (.int l3), some (.int l6), some (.int t5.1), some (.int l6), some (.int t5.1)]) dX1_mostTelling_61 rfl rfl ?_
          obtain ⟨v11, hv11, hf⟩ := b_lt hf
          refine x_iinc hP (v := v11) (ls2 := [some (.ref l0), some (.ref n1), some (.int l2), some (.int l3), some (.int l6), some (.int t5.1), some (.int v11), some (.int t5.1)]) dX1_mostTelling_63 rfl (by rw [hv11]; rfl) rfl rfl ?_
          refine x_goto hP dX1_mostTelling_66 (tgt := 11) (by decide) ?_
          refine x_drop hP [some (.ref l0), some (.ref n1), some (.int l2), some (.int l3), some (.int l6), some (.int t5.1), some (.int v11), none] (And.intro rfl (And.intro rfl (And.intro rfl (And.intro rfl (And.intro rfl (And.intro rfl (And.intro rfl trivial))))))) ?_
          exact ih _ _ _ _ _ _ _ hf hx
      clear hf
      have hf := het5
      clear het5
      refine x_if_eq hP dX1_mostTelling_29 (tgt := 37) (by decide) (fun c6 => ?_) (fun c6 => ?_)
      · replace hf := p_t c6 hf
        refine x_aload_n hP dX1_mostTelling_37 rfl ?_
        refine x_aload_n hP dX1_mostTelling_38 rfl ?_
        refine x_iload_n hP dX1_mostTelling_39 rfl ?_
        refine x_iload hP dX1_mostTelling_40 rfl ?_
        refine x_iload_n hP dX1_mostTelling_42 rfl ?_
        obtain ⟨t8, hc7, hf⟩ := b_bd hf
        refine y_csi hP oX1_leftAtWorst lX1_47 [.ref l0, .ref n1, .int l2, .int l6, .int l3] [] rfl rfl rfl dX1_mostTelling_43 (t_X1_leftAtWorst (d := d - 1) (by omega) hl0 hn1 hc7) (by omega) ?_
        refine x_drop hP [some (.ref l0), some (.ref n1), some (.int l2), some (.int l3), some (.int l4), some (.int l5), some (.int l6), none] (And.intro rfl (And.intro rfl (And.intro rfl (And.intro rfl (And.intro rfl (And.intro rfl (And.intro rfl trivial))))))) ?_
        cases hf
        exact hj5
      · replace hf := p_f c6 hf
        refine x_iload hP dX1_mostTelling_32 rfl ?_
        refine x_goto hP dX1_mostTelling_34 (tgt := 46) (by decide) ?_
        refine x_drop hP [some (.ref l0), some (.ref n1), some (.int l2), some (.int l3), some (.int l4), some (.int l5), some (.int l6), none] (And.intro rfl (And.intro rfl (And.intro rfl (And.intro rfl (And.intro rfl (And.intro rfl (And.intro rfl trivial))))))) ?_
        cases hf
        exact hj5
set_option maxHeartbeats 1000000 in
set_option maxRecDepth 20000 in
theorem t_X1_mostTelling {g : GG} {d : Nat} (hd : 5 ≤ d) {l0 : Nat} (hl0 : isL l0) {n1 : Nat} (hn1 : isN n1) {x2 : Int32} {x3 : Int32} {M : Mem} {r : Int32} {M' : Mem} (hf : f_X1_mostTelling l0 n1 x2 x3 M = some (r, M')) : ExM g d iX1_mostTelling [.ref l0, .ref n1, .int x2, .int x3] LAY M (some (.int r), LAY, M') := by
  have hd1 : 1 ≤ d := by omega
  refine ExM.main pnX1 rfl (ls := [some (.ref l0), some (.ref n1), some (.int x2), some (.int x3), none, none, none, none]) rfl ?_
  intro P hP
  rw [f_X1_mostTelling] at hf
  refine x_bipush hP dX1_mostTelling_0 (v := (-2)) rfl ?_
  refine x_istore hP (ls2 := [some (.ref l0), some (.ref n1), some (.int x2), some (.int x3), some (.int (-2 : Int32)), none, none, none]) dX1_mostTelling_2 rfl rfl ?_
  refine x_bipush hP dX1_mostTelling_4 (v := 6) rfl ?_
  refine x_istore hP (ls2 := [some (.ref l0), some (.ref n1), some (.int x2), some (.int x3), some (.int (-2 : Int32)), some (.int (6 : Int32)), none, none]) dX1_mostTelling_6 rfl rfl ?_
  refine x_iconst hP dX1_mostTelling_8 (v := 0) rfl ?_
  refine x_istore hP (ls2 := [some (.ref l0), some (.ref n1), some (.int x2), some (.int x3), some (.int (-2 : Int32)), some (.int (6 : Int32)), some (.int (0 : Int32)), none]) dX1_mostTelling_9 rfl rfl ?_
  refine x_drop hP [some (.ref l0), some (.ref n1), some (.int x2), some (.int x3), some (.int (-2 : Int32)), some (.int (6 : Int32)), some (.int (0 : Int32)), none] (And.intro rfl (And.intro rfl (And.intro rfl (And.intro rfl (And.intro rfl (And.intro rfl (And.intro rfl trivial))))))) ?_
  obtain ⟨t12, hl13, hf⟩ := b_bd hf
  refine t_X1_mostTelling_L11 hd hl0 hn1 hP _ _ _ _ _ _ _ _ hl13 ?_
  refine x_iload hP dX1_mostTelling_69 rfl ?_
  cases hf
  exact x_iret hP rfl dX1_mostTelling_71

-- by program: wip/whole/gen/build_parts.py
def f_X7_byteAt (x1 : Int32) (M : Mem) : Option (Int32) :=
  if x1 < 0 then
    some (-1 : Int32)
  else
    if M.1 21 1 ≤ x1 then
      some (-1 : Int32)
    else
      if x1 < (2000 : Int32) then
        (ag M 22 2000 x1).bind fun v4 =>
        some (v4 &&& (255 : Int32))
      else
        some (-1 : Int32)
set_option maxHeartbeats 1000000 in
set_option maxRecDepth 20000 in
theorem t_X7_byteAt {g : GG} {d : Nat} (hd : 1 ≤ d) {x1 : Int32} {M : Mem} {r : Int32} (hf : f_X7_byteAt x1 M = some r) : ExM g d iX7_byteAt [.ref 21, .int x1] LAY M (some (.int r), LAY, M) := by
  have hd1 : 1 ≤ d := by omega
  refine ExM.main pnX7 rfl (ls := [some (.ref 21), some (.int x1)]) rfl ?_
  intro P hP
  rw [f_X7_byteAt] at hf
  refine x_iload_n hP dX7_byteAt_0 rfl ?_
  refine x_if_lt hP dX7_byteAt_1 (tgt := 19) (by decide) (fun c1 => ?_) (fun c1 => ?_)
  · replace hf := p_t c1 hf
    refine x_iconst hP dX7_byteAt_19 (v := (-1)) rfl ?_
    refine x_goto hP dX7_byteAt_20 (tgt := 33) (by decide) ?_
    cases hf
    exact x_iret hP rfl dX7_byteAt_33
  · replace hf := p_f c1 hf
    refine x_iload_n hP dX7_byteAt_4 rfl ?_
    refine x_aload_n hP dX7_byteAt_5 rfl ?_
    refine x_getI hP fX7_15 lay21 dX7_byteAt_6 ?_
    refine x_icmp_ge hP dX7_byteAt_9 (tgt := 19) (by decide) (fun c2 => ?_) (fun c2 => ?_)
    · replace hf := p_t c2 hf
      refine x_iconst hP dX7_byteAt_19 (v := (-1)) rfl ?_
      refine x_goto hP dX7_byteAt_20 (tgt := 33) (by decide) ?_
      cases hf
      exact x_iret hP rfl dX7_byteAt_33
    · replace hf := p_f c2 hf
      refine x_iload_n hP dX7_byteAt_12 rfl ?_
      refine x_sipush hP dX7_byteAt_13 (v := 2000) rfl ?_
      refine x_icmp_lt hP dX7_byteAt_16 (tgt := 23) (by decide) (fun c3 => ?_) (fun c3 => ?_)
      · replace hf := p_t c3 hf
        refine x_aload_n hP dX7_byteAt_23 rfl ?_
        refine x_getA hP fX7_11 lay21 (r := 22) rfl dX7_byteAt_24 ?_
        refine x_iload_n hP dX7_byteAt_27 rfl ?_
        obtain ⟨v4, hiv4, hv4, hf⟩ := b_ag hf
        refine y_bld hP lay22 hiv4 hv4 dX7_byteAt_28 ?_
        refine x_sipush hP dX7_byteAt_29 (v := 255) rfl ?_
        refine x_iand hP dX7_byteAt_32 ?_
        cases hf
        exact x_iret hP rfl dX7_byteAt_33
      · replace hf := p_f c3 hf
        refine x_iconst hP dX7_byteAt_19 (v := (-1)) rfl ?_
        refine x_goto hP dX7_byteAt_20 (tgt := 33) (by decide) ?_
        cases hf
        exact x_iret hP rfl dX7_byteAt_33
def f_X7_append_L3 : Nat → Int32 → Int32 → Mem → Option (Mem)
  | 0, _, _, _ => none
  | fu + 1, l1, l2, M =>
    if l2 < 0 then
      some M
    else
      if (2000 : Int32) ≤ M.1 21 1 then
        some M
      else
        (pb M 22 2000 (M.1 21 1) ((l1 >>> (l2 &&& 31)).toInt8.toInt32)).bind fun M3 =>
        lt (sI M3 21 1 ((M3.1 21 1) + (1 : Int32))) fun M4 =>
        lt (l2 + (-8) : Int32) fun v5 =>
        f_X7_append_L3 fu l1 v5 M4
def f_X7_append (x1 : Int32) (M : Mem) : Option (Mem) :=
  (f_X7_append_L3 FU x1 (24 : Int32) M).bind fun t6 =>
  some t6
set_option maxHeartbeats 1000000 in
set_option maxRecDepth 20000 in
theorem t_X7_append_L3 {g : GG} {d : Nat} {P : PT} {res : Option RS} (hd : 1 ≤ d)  (hP : IsM g iX7_append d res P) : ∀ (fu : Nat) (l1 : Int32) (l2 : Int32) (M : Mem) (t : Mem), f_X7_append_L3 fu l1 l2 M = some t → P 46 [none, none, none] [] LAY t → P 3 [some (.ref 21), some (.int l1), some (.int l2)] [] LAY M := by
  have hd1 : 1 ≤ d := by omega
  intro fu
  induction fu with
  | zero => intro l1 l2 M t hf; simp [f_X7_append_L3] at hf
  | succ fu ih =>
    intro l1 l2 M t hf hx
    rw [f_X7_append_L3] at hf
    refine x_iload_n hP dX7_append_3 rfl ?_
    refine x_if_lt hP dX7_append_4 (tgt := 46) (by decide) (fun c1 => ?_) (fun c1 => ?_)
    · replace hf := p_t c1 hf
      refine x_drop hP [none, none, none] trivial ?_
      cases hf
      exact hx
    · replace hf := p_f c1 hf
      refine x_aload_n hP dX7_append_7 rfl ?_
      refine x_getI hP fX7_15 lay21 dX7_append_8 ?_
      refine x_sipush hP dX7_append_11 (v := 2000) rfl ?_
      refine x_icmp_ge hP dX7_append_14 (tgt := 46) (by decide) (fun c2 => ?_) (fun c2 => ?_)
      · replace hf := p_t c2 hf
        refine x_drop hP [none, none, none] trivial ?_
        cases hf
        exact hx
      · replace hf := p_f c2 hf
        refine x_aload_n hP dX7_append_17 rfl ?_
        refine x_getA hP fX7_11 lay21 (r := 22) rfl dX7_append_18 ?_
        refine x_aload_n hP dX7_append_21 rfl ?_
        refine x_getI hP fX7_15 lay21 dX7_append_22 ?_
        refine x_iload_n hP dX7_append_25 rfl ?_
        refine x_iload_n hP dX7_append_26 rfl ?_
        refine x_ishr hP dX7_append_27 ?_
        refine x_i2b hP dX7_append_28 ?_
        obtain ⟨M3, hiM3, hM3, hf⟩ := b_pb hf
        refine y_bst hP lay22 hiM3 hM3 dX7_append_29 ?_
        refine x_aload_n hP dX7_append_30 rfl ?_
        refine x_dup hP dX7_append_31 rfl ?_
        refine x_getI hP fX7_15 lay21 dX7_append_32 ?_
        refine x_iconst hP dX7_append_35 (v := 1) rfl ?_
        refine x_iadd hP dX7_append_36 ?_
        obtain ⟨M4, hM4, hf⟩ := b_lt hf
        refine y_putI hP fX7_15 lay21 hM4 dX7_append_37 ?_
        obtain ⟨v5, hv5, hf⟩ := b_lt hf
        refine x_iinc hP (v := v5) (ls2 := [some (.ref 21), some (.int l1), some (.int v5)]) dX7_append_40 rfl (by rw [hv5]; rfl) rfl rfl ?_
        refine x_goto hP dX7_append_43 (tgt := 3) (by decide) ?_
        refine x_drop hP [some (.ref 21), some (.int l1), some (.int v5)] (And.intro rfl (And.intro rfl (And.intro rfl trivial))) ?_
        exact ih _ _ _ _ hf hx
set_option maxHeartbeats 1000000 in
set_option maxRecDepth 20000 in
theorem t_X7_append {g : GG} {d : Nat} (hd : 1 ≤ d) {x1 : Int32} {M : Mem} {M' : Mem} (hf : f_X7_append x1 M = some M') : ExM g d iX7_append [.ref 21, .int x1] LAY M (none, LAY, M') := by
  have hd1 : 1 ≤ d := by omega
  refine ExM.main pnX7 rfl (ls := [some (.ref 21), some (.int x1), none]) rfl ?_
  intro P hP
  rw [f_X7_append] at hf
  refine x_bipush hP dX7_append_0 (v := 24) rfl ?_
  refine x_istore_n hP (ls2 := [some (.ref 21), some (.int x1), some (.int (24 : Int32))]) dX7_append_2 rfl rfl rfl ?_
  refine x_drop hP [some (.ref 21), some (.int x1), some (.int (24 : Int32))] (And.intro rfl (And.intro rfl (And.intro rfl trivial))) ?_
  obtain ⟨t6, hl7, hf⟩ := b_bd hf
  refine t_X7_append_L3 hd hP _ _ _ _ _ hl7 ?_
  cases hf
  exact x_vret hP rfl dX7_append_46

-- by program: wip/whole/gen/build_parts.py
def f_X6_start (t2 : Nat) (M : Mem) : Option (Mem) :=
  (f_X8_cutUp M).bind fun M2 =>
  (f_X9_clear t2 M2).bind fun M4 =>
  lt (sR M4 23 5 (some t2)) fun M5 =>
  lt (sI M5 23 6 (0 : Int32)) fun M6 =>
  lt (sI M6 23 4 (0 : Int32)) fun M7 =>
  lt (sI M7 23 7 (0 : Int32)) fun M8 =>
  lt (sI M8 23 0 (-1 : Int32)) fun M9 =>
  lt (sI M9 23 8 (0 : Int32)) fun M10 =>
  lt (sI M10 23 9 (-1 : Int32)) fun M11 =>
  some M11
set_option maxHeartbeats 1000000 in
set_option maxRecDepth 20000 in
theorem t_X6_start {g : GG} {d : Nat} (hd : 8 ≤ d) {t2 : Nat} (ht2 : isT t2) {M : Mem} {M' : Mem} (hf : f_X6_start t2 M = some M') : ExM g d iX6_start [.ref 23, .ref 21, .ref t2] LAY M (none, LAY, M') := by
  have hd1 : 1 ≤ d := by omega
  refine ExM.main pnX6 rfl (ls := [some (.ref 23), some (.ref 21), some (.ref t2)]) rfl ?_
  intro P hP
  rw [f_X6_start] at hf
  refine x_aload_n hP dX6_start_0 rfl ?_
  refine x_getO hP fX6_12 lay23 (r := 24) rfl dX6_start_1 ?_
  refine x_aload_n hP dX6_start_4 rfl ?_
  obtain ⟨M2, hc1, hf⟩ := b_bd hf
  refine y_cvv hP oX8_cutUp lX6_91 [.ref 21] [] rfl rfl rfl lay24 dX6_start_5 (t_X8_cutUp (d := d - 1) (by omega) hc1) (by omega) ?_
  refine x_aload_n hP dX6_start_8 rfl ?_
  obtain ⟨M4, hc3, hf⟩ := b_bd hf
  refine y_cvv hP oX9_clear lX6_95 [] [] rfl rfl rfl (layT ht2) dX6_start_9 (t_X9_clear (d := d - 1) (by omega) ht2 hc3) (by omega) ?_
  refine x_aload_n hP dX6_start_12 rfl ?_
  refine x_aload_n hP dX6_start_13 rfl ?_
  obtain ⟨M5, hM5, hf⟩ := b_lt hf
  refine y_putM hP fX6_26 lay23 hM5 dX6_start_14 ?_
  refine x_aload_n hP dX6_start_17 rfl ?_
  refine x_iconst hP dX6_start_18 (v := 0) rfl ?_
  obtain ⟨M6, hM6, hf⟩ := b_lt hf
  refine y_putI hP fX6_98 lay23 hM6 dX6_start_19 ?_
  refine x_aload_n hP dX6_start_22 rfl ?_
  refine x_iconst hP dX6_start_23 (v := 0) rfl ?_
  obtain ⟨M7, hM7, hf⟩ := b_lt hf
  refine y_putI hP fX6_101 lay23 hM7 dX6_start_24 ?_
  refine x_aload_n hP dX6_start_27 rfl ?_
  refine x_iconst hP dX6_start_28 (v := 0) rfl ?_
  obtain ⟨M8, hM8, hf⟩ := b_lt hf
  refine y_putI hP fX6_34 lay23 hM8 dX6_start_29 ?_
  refine x_aload_n hP dX6_start_32 rfl ?_
  refine x_iconst hP dX6_start_33 (v := (-1)) rfl ?_
  obtain ⟨M9, hM9, hf⟩ := b_lt hf
  refine y_putI hP fX6_88 lay23 hM9 dX6_start_34 ?_
  refine x_aload_n hP dX6_start_37 rfl ?_
  refine x_iconst hP dX6_start_38 (v := 0) rfl ?_
  obtain ⟨M10, hM10, hf⟩ := b_lt hf
  refine y_putI hP fX6_82 lay23 hM10 dX6_start_39 ?_
  refine x_aload_n hP dX6_start_42 rfl ?_
  refine x_iconst hP dX6_start_43 (v := (-1)) rfl ?_
  obtain ⟨M11, hM11, hf⟩ := b_lt hf
  refine y_putI hP fX6_85 lay23 hM11 dX6_start_44 ?_
  cases hf
  exact x_vret hP rfl dX6_start_47
def f_X6_kind (M : Mem) : Option (Int32) :=
  (ag M 25 401 (M.1 23 6)).bind fun v1 =>
  some v1
set_option maxHeartbeats 1000000 in
set_option maxRecDepth 20000 in
theorem t_X6_kind {g : GG} {d : Nat} (hd : 1 ≤ d) {M : Mem} {r : Int32} (hf : f_X6_kind M = some r) : ExM g d iX6_kind [.ref 23] LAY M (some (.int r), LAY, M) := by
  have hd1 : 1 ≤ d := by omega
  refine ExM.main pnX6 rfl (ls := [some (.ref 23)]) rfl ?_
  intro P hP
  rw [f_X6_kind] at hf
  refine x_aload_n hP dX6_kind_0 rfl ?_
  refine x_getO hP fX6_12 lay23 (r := 24) rfl dX6_kind_1 ?_
  refine x_getA hP fX6_167 lay24 (r := 25) rfl dX6_kind_4 ?_
  refine x_aload_n hP dX6_kind_7 rfl ?_
  refine x_getI hP fX6_98 lay23 dX6_kind_8 ?_
  obtain ⟨v1, hiv1, hv1, hf⟩ := b_ag hf
  refine y_ald hP lay25 hiv1 hv1 dX6_kind_11 ?_
  cases hf
  exact x_iret hP rfl dX6_kind_12
def f_X6_fail (x1 : Int32) (M : Mem) : Option (Mem) :=
  if M.1 23 7 = 0 then
    lt (sI M 23 7 x1) fun M2 =>
    (ag M2 26 401 (M2.1 23 6)).bind fun v3 =>
    lt (sI M2 23 0 v3) fun M4 =>
    some M4
  else
    some M
set_option maxHeartbeats 1000000 in
set_option maxRecDepth 20000 in
theorem t_X6_fail {g : GG} {d : Nat} (hd : 1 ≤ d) {x1 : Int32} {M : Mem} {M' : Mem} (hf : f_X6_fail x1 M = some M') : ExM g d iX6_fail [.ref 23, .int x1] LAY M (none, LAY, M') := by
  have hd1 : 1 ≤ d := by omega
  refine ExM.main pnX6 rfl (ls := [some (.ref 23), some (.int x1)]) rfl ?_
  intro P hP
  rw [f_X6_fail] at hf
  refine x_aload_n hP dX6_fail_0 rfl ?_
  refine x_getI hP fX6_34 lay23 dX6_fail_1 ?_
  refine x_if_ne hP dX6_fail_4 (tgt := 28) (by decide) (fun c1 => ?_) (fun c1 => ?_)
  · replace hf := p_f c1 hf
    cases hf
    exact x_vret hP rfl dX6_fail_28
  · replace hf := p_t c1 hf
    refine x_aload_n hP dX6_fail_7 rfl ?_
    refine x_iload_n hP dX6_fail_8 rfl ?_
    obtain ⟨M2, hM2, hf⟩ := b_lt hf
    refine y_putI hP fX6_34 lay23 hM2 dX6_fail_9 ?_
    refine x_aload_n hP dX6_fail_12 rfl ?_
    refine x_aload_n hP dX6_fail_13 rfl ?_
    refine x_getO hP fX6_12 lay23 (r := 24) rfl dX6_fail_14 ?_
    refine x_getA hP fX6_117 lay24 (r := 26) rfl dX6_fail_17 ?_
    refine x_aload_n hP dX6_fail_20 rfl ?_
    refine x_getI hP fX6_98 lay23 dX6_fail_21 ?_
    obtain ⟨v3, hiv3, hv3, hf⟩ := b_ag hf
    refine y_ald hP lay26 hiv3 hv3 dX6_fail_24 ?_
    obtain ⟨M4, hM4, hf⟩ := b_lt hf
    refine y_putI hP fX6_88 lay23 hM4 dX6_fail_25 ?_
    cases hf
    exact x_vret hP rfl dX6_fail_28
def f_X6_pass (M : Mem) : Option (Mem) :=
  if M.1 23 7 = 0 then
    if (400 : Int32) ≤ M.1 23 6 then
      lt (sI M 23 7 (2 : Int32)) fun M3 =>
      (ag M3 26 401 (M3.1 23 6)).bind fun v4 =>
      lt (sI M3 23 0 v4) fun M5 =>
      some M5
    else
      lt (sI M 23 6 ((M.1 23 6) + (1 : Int32))) fun M6 =>
      some M6
  else
    some M
set_option maxHeartbeats 1000000 in
set_option maxRecDepth 20000 in
theorem t_X6_pass {g : GG} {d : Nat} (hd : 1 ≤ d) {M : Mem} {M' : Mem} (hf : f_X6_pass M = some M') : ExM g d iX6_pass [.ref 23] LAY M (none, LAY, M') := by
  have hd1 : 1 ≤ d := by omega
  refine ExM.main pnX6 rfl (ls := [some (.ref 23)]) rfl ?_
  intro P hP
  rw [f_X6_pass] at hf
  refine x_aload_n hP dX6_pass_0 rfl ?_
  refine x_getI hP fX6_34 lay23 dX6_pass_1 ?_
  refine x_if_eq hP dX6_pass_4 (tgt := 8) (by decide) (fun c1 => ?_) (fun c1 => ?_)
  · replace hf := p_t c1 hf
    refine x_aload_n hP dX6_pass_8 rfl ?_
    refine x_getI hP fX6_98 lay23 dX6_pass_9 ?_
    refine x_sipush hP dX6_pass_12 (v := 400) rfl ?_
    refine x_icmp_ge hP dX6_pass_15 (tgt := 31) (by decide) (fun c2 => ?_) (fun c2 => ?_)
    · replace hf := p_t c2 hf
      refine x_aload_n hP dX6_pass_31 rfl ?_
      refine x_iconst hP dX6_pass_32 (v := 2) rfl ?_
      obtain ⟨M3, hM3, hf⟩ := b_lt hf
      refine y_putI hP fX6_34 lay23 hM3 dX6_pass_33 ?_
      refine x_aload_n hP dX6_pass_36 rfl ?_
      refine x_aload_n hP dX6_pass_37 rfl ?_
      refine x_getO hP fX6_12 lay23 (r := 24) rfl dX6_pass_38 ?_
      refine x_getA hP fX6_117 lay24 (r := 26) rfl dX6_pass_41 ?_
      refine x_aload_n hP dX6_pass_44 rfl ?_
      refine x_getI hP fX6_98 lay23 dX6_pass_45 ?_
      obtain ⟨v4, hiv4, hv4, hf⟩ := b_ag hf
      refine y_ald hP lay26 hiv4 hv4 dX6_pass_48 ?_
      obtain ⟨M5, hM5, hf⟩ := b_lt hf
      refine y_putI hP fX6_88 lay23 hM5 dX6_pass_49 ?_
      cases hf
      exact x_vret hP rfl dX6_pass_52
    · replace hf := p_f c2 hf
      refine x_aload_n hP dX6_pass_18 rfl ?_
      refine x_dup hP dX6_pass_19 rfl ?_
      refine x_getI hP fX6_98 lay23 dX6_pass_20 ?_
      refine x_iconst hP dX6_pass_23 (v := 1) rfl ?_
      refine x_iadd hP dX6_pass_24 ?_
      obtain ⟨M6, hM6, hf⟩ := b_lt hf
      refine y_putI hP fX6_98 lay23 hM6 dX6_pass_25 ?_
      refine x_goto hP dX6_pass_28 (tgt := 52) (by decide) ?_
      cases hf
      exact x_vret hP rfl dX6_pass_52
  · replace hf := p_f c1 hf
    cases hf
    exact x_vret hP rfl dX6_pass_7
def f_X6_passOneOf (x1 : Int32) (x2 : Int32) (M : Mem) : Option (Mem) :=
  (
    if x1 < x2 then
      some M
    else
      (f_X6_fail (2 : Int32) M).bind fun M4 =>
      some M4
  ).bind fun t1 =>
  (f_X6_pass t1).bind fun M6 =>
  some M6
set_option maxHeartbeats 1000000 in
set_option maxRecDepth 20000 in
theorem t_X6_passOneOf {g : GG} {d : Nat} (hd : 2 ≤ d) {x1 : Int32} {x2 : Int32} {M : Mem} {M' : Mem} (hf : f_X6_passOneOf x1 x2 M = some M') : ExM g d iX6_passOneOf [.ref 23, .int x1, .int x2] LAY M (none, LAY, M') := by
  have hd1 : 1 ≤ d := by omega
  refine ExM.main pnX6 rfl (ls := [some (.ref 23), some (.int x1), some (.int x2)]) rfl ?_
  intro P hP
  rw [f_X6_passOneOf] at hf
  refine x_iload_n hP dX6_passOneOf_0 rfl ?_
  refine x_iload_n hP dX6_passOneOf_1 rfl ?_
  obtain ⟨t1, het1, hf⟩ := b_bd hf
  have hj1 : P 10 [some (.ref 23), none, none] [] LAY t1 := by
    refine x_aload_n hP dX6_passOneOf_10 rfl ?_
    obtain ⟨M6, hc5, hf⟩ := b_bd hf
    refine y_cvv hP oX6_pass lX6_54 [] [] rfl rfl rfl lay23 dX6_passOneOf_11 (t_X6_pass (d := d - 1) (by omega) hc5) (by omega) ?_
    cases hf
    exact x_vret hP rfl dX6_passOneOf_14
  clear hf
  have hf := het1
  clear het1
  refine x_icmp_lt hP dX6_passOneOf_2 (tgt := 10) (by decide) (fun c2 => ?_) (fun c2 => ?_)
  · replace hf := p_t c2 hf
    refine x_drop hP [some (.ref 23), none, none] (And.intro rfl trivial) ?_
    cases hf
    exact hj1
  · replace hf := p_f c2 hf
    refine x_aload_n hP dX6_passOneOf_5 rfl ?_
    refine x_iconst hP dX6_passOneOf_6 (v := 2) rfl ?_
    obtain ⟨M4, hc3, hf⟩ := b_bd hf
    refine y_cvv hP oX6_fail lX6_139 [.int (2 : Int32)] [] rfl rfl rfl lay23 dX6_passOneOf_7 (t_X6_fail (d := d - 1) (by omega) hc3) (by omega) ?_
    refine x_drop hP [some (.ref 23), none, none] (And.intro rfl trivial) ?_
    cases hf
    exact hj1
def f_X6_expect (x1 : Int32) (M : Mem) : Option (Mem) :=
  (f_X6_kind M).bind fun v2 =>
  if v2 = x1 then
    (f_X6_pass M).bind fun M5 =>
    some M5
  else
    (f_X6_fail (1 : Int32) M).bind fun M7 =>
    some M7
set_option maxHeartbeats 1000000 in
set_option maxRecDepth 20000 in
theorem t_X6_expect {g : GG} {d : Nat} (hd : 2 ≤ d) {x1 : Int32} {M : Mem} {M' : Mem} (hf : f_X6_expect x1 M = some M') : ExM g d iX6_expect [.ref 23, .int x1] LAY M (none, LAY, M') := by
  have hd1 : 1 ≤ d := by omega
  refine ExM.main pnX6 rfl (ls := [some (.ref 23), some (.int x1)]) rfl ?_
  intro P hP
  rw [f_X6_expect] at hf
  refine x_aload_n hP dX6_expect_0 rfl ?_
  obtain ⟨v2, hc1, hf⟩ := b_bd hf
  refine y_cvi hP oX6_kind lX6_38 [] [] rfl rfl rfl lay23 dX6_expect_1 (t_X6_kind (d := d - 1) (by omega) hc1) (by omega) ?_
  refine x_iload_n hP dX6_expect_4 rfl ?_
  refine x_icmp_ne hP dX6_expect_5 (tgt := 15) (by decide) (fun c3 => ?_) (fun c3 => ?_)
  · replace hf := p_f c3 hf
    refine x_aload_n hP dX6_expect_15 rfl ?_
    refine x_iconst hP dX6_expect_16 (v := 1) rfl ?_
    obtain ⟨M7, hc6, hf⟩ := b_bd hf
    refine y_cvv hP oX6_fail lX6_139 [.int (1 : Int32)] [] rfl rfl rfl lay23 dX6_expect_17 (t_X6_fail (d := d - 1) (by omega) hc6) (by omega) ?_
    cases hf
    exact x_vret hP rfl dX6_expect_20
  · replace hf := p_t c3 hf
    refine x_aload_n hP dX6_expect_8 rfl ?_
    obtain ⟨M5, hc4, hf⟩ := b_bd hf
    refine y_cvv hP oX6_pass lX6_54 [] [] rfl rfl rfl lay23 dX6_expect_9 (t_X6_pass (d := d - 1) (by omega) hc4) (by omega) ?_
    refine x_goto hP dX6_expect_12 (tgt := 20) (by decide) ?_
    cases hf
    exact x_vret hP rfl dX6_expect_20
def f_X6_find_L2 (k : Unit → Option (Int32)) : Nat → Int64 → Int32 → Mem → Option (Int32)
  | 0, _, _, _ => none
  | fu + 1, l1, l3, M =>
    if M.1 23 4 ≤ l3 then
      k ()
    else
      (aj M 29 18 l3).bind fun v2 =>
      if lg_cmp v2 l1 = 0 then
        some l3
      else
        lt (l3 + 1 : Int32) fun v4 =>
        f_X6_find_L2 k fu l1 v4 M
def f_X6_find (x1 : Int64) (M : Mem) : Option (Int32) :=
  f_X6_find_L2 (fun t5 =>
      some (-1 : Int32)
    ) FU x1 (0 : Int32) M
set_option maxHeartbeats 1000000 in
set_option maxRecDepth 20000 in
theorem t_X6_find_L2 {g : GG} {d : Nat} {P : PT} {M : Mem} {r : Int32} (hd : 1 ≤ d)  {l1 : Int64} (hP : IsM g iX6_find d (some (some (.int r), LAY, M)) P) {k : Unit → Option (Int32)} (hk : ∀ t : Unit, k t = some r → P 29 [none, none, none, none] [] LAY M) : ∀ (fu : Nat) (l3 : Int32), f_X6_find_L2 k fu l1 l3 M = some r → P 2 [some (.ref 23), some (.long l1), none, some (.int l3)] [] LAY M := by
  have hd1 : 1 ≤ d := by omega
  intro fu
  induction fu with
  | zero => intro l3 hf; simp [f_X6_find_L2] at hf
  | succ fu ih =>
    intro l3 hf
    rw [f_X6_find_L2] at hf
    refine x_iload_n hP dX6_find_2 rfl ?_
    refine x_aload_n hP dX6_find_3 rfl ?_
    refine x_getI hP fX6_101 lay23 dX6_find_4 ?_
    refine x_icmp_ge hP dX6_find_7 (tgt := 29) (by decide) (fun c1 => ?_) (fun c1 => ?_)
    · replace hf := p_t c1 hf
      refine x_drop hP [none, none, none, none] trivial ?_
      exact hk _ hf
    · replace hf := p_f c1 hf
      refine x_aload_n hP dX6_find_10 rfl ?_
      refine x_getA hP fX6_18 lay23 (r := 29) rfl dX6_find_11 ?_
      refine x_iload_n hP dX6_find_14 rfl ?_
      obtain ⟨v2, hiv2, hv2, hf⟩ := b_aj hf
      refine y_lld hP lay29 hiv2 hv2 dX6_find_15 ?_
      refine x_lload_n hP dX6_find_16 rfl ?_
      refine x_lcmp hP dX6_find_17 ?_
      refine x_if_ne hP dX6_find_18 (tgt := 23) (by decide) (fun c3 => ?_) (fun c3 => ?_)
      · replace hf := p_f c3 hf
        obtain ⟨v4, hv4, hf⟩ := b_lt hf
        refine x_iinc hP (v := v4) (ls2 := [some (.ref 23), some (.long l1), none, some (.int v4)]) dX6_find_23 rfl (by rw [hv4]; rfl) rfl rfl ?_
        refine x_goto hP dX6_find_26 (tgt := 2) (by decide) ?_
        refine x_drop hP [some (.ref 23), some (.long l1), none, some (.int v4)] (And.intro rfl (And.intro rfl (And.intro rfl trivial))) ?_
        exact ih _ hf
      · replace hf := p_t c3 hf
        refine x_iload_n hP dX6_find_21 rfl ?_
        cases hf
        exact x_iret hP rfl dX6_find_22
set_option maxHeartbeats 1000000 in
set_option maxRecDepth 20000 in
theorem t_X6_find {g : GG} {d : Nat} (hd : 1 ≤ d) {x1 : Int64} {M : Mem} {r : Int32} (hf : f_X6_find x1 M = some r) : ExM g d iX6_find [.ref 23, .long x1] LAY M (some (.int r), LAY, M) := by
  have hd1 : 1 ≤ d := by omega
  refine ExM.main pnX6 rfl (ls := [some (.ref 23), some (.long x1), none, none]) rfl ?_
  intro P hP
  rw [f_X6_find] at hf
  refine x_iconst hP dX6_find_0 (v := 0) rfl ?_
  refine x_istore_n hP (ls2 := [some (.ref 23), some (.long x1), none, some (.int (0 : Int32))]) dX6_find_1 rfl rfl rfl ?_
  refine x_drop hP [some (.ref 23), some (.long x1), none, some (.int (0 : Int32))] (And.intro rfl (And.intro rfl (And.intro rfl trivial))) ?_
  refine t_X6_find_L2 hd hP (fun t5 hf => ?_) _ _ hf
  refine x_iconst hP dX6_find_29 (v := (-1)) rfl ?_
  cases hf
  exact x_iret hP rfl dX6_find_30
def f_X6_failLater (x1 : Int32) (x2 : Int32) (M : Mem) : Option (Mem) :=
  if M.1 23 8 = 0 then
    lt (sI M 23 8 x1) fun M2 =>
    lt (sI M2 23 9 x2) fun M3 =>
    some M3
  else
    some M
set_option maxHeartbeats 1000000 in
set_option maxRecDepth 20000 in
theorem t_X6_failLater {g : GG} {d : Nat} (hd : 1 ≤ d) {x1 : Int32} {x2 : Int32} {M : Mem} {M' : Mem} (hf : f_X6_failLater x1 x2 M = some M') : ExM g d iX6_failLater [.ref 23, .int x1, .int x2] LAY M (none, LAY, M') := by
  have hd1 : 1 ≤ d := by omega
  refine ExM.main pnX6 rfl (ls := [some (.ref 23), some (.int x1), some (.int x2)]) rfl ?_
  intro P hP
  rw [f_X6_failLater] at hf
  refine x_aload_n hP dX6_failLater_0 rfl ?_
  refine x_getI hP fX6_82 lay23 dX6_failLater_1 ?_
  refine x_if_ne hP dX6_failLater_4 (tgt := 17) (by decide) (fun c1 => ?_) (fun c1 => ?_)
  · replace hf := p_f c1 hf
    cases hf
    exact x_vret hP rfl dX6_failLater_17
  · replace hf := p_t c1 hf
    refine x_aload_n hP dX6_failLater_7 rfl ?_
    refine x_iload_n hP dX6_failLater_8 rfl ?_
    obtain ⟨M2, hM2, hf⟩ := b_lt hf
    refine y_putI hP fX6_82 lay23 hM2 dX6_failLater_9 ?_
    refine x_aload_n hP dX6_failLater_12 rfl ?_
    refine x_iload_n hP dX6_failLater_13 rfl ?_
    obtain ⟨M3, hM3, hf⟩ := b_lt hf
    refine y_putI hP fX6_85 lay23 hM3 dX6_failLater_14 ?_
    cases hf
    exact x_vret hP rfl dX6_failLater_17
def f_X6_takeNewName (x1 : Int32) (M : Mem) : Option (Mem) :=
  (aj M 27 401 (M.1 23 6)).bind fun v1 =>
  (ag M 26 401 (M.1 23 6)).bind fun v2 =>
  (f_X6_expect (2 : Int32) M).bind fun M4 =>
  if M4.1 23 7 = 0 then
    (f_X6_find v1 M4).bind fun v7 =>
    (
      if v7 = (-1 : Int32) then
        some M4
      else
        (f_X6_failLater (3 : Int32) v2 M4).bind fun M11 =>
        some M11
    ).bind fun t8 =>
    if (18 : Int32) ≤ t8.1 23 4 then
      some t8
    else
      (pj t8 29 18 (t8.1 23 4) v1).bind fun M13 =>
      (pg M13 30 18 (M13.1 23 4) x1).bind fun M14 =>
      lt (sI M14 23 4 ((M14.1 23 4) + (1 : Int32))) fun M15 =>
      some M15
  else
    some M4
set_option maxHeartbeats 1000000 in
set_option maxRecDepth 20000 in
theorem t_X6_takeNewName {g : GG} {d : Nat} (hd : 3 ≤ d) {x1 : Int32} {M : Mem} {M' : Mem} (hf : f_X6_takeNewName x1 M = some M') : ExM g d iX6_takeNewName [.ref 23, .int x1] LAY M (none, LAY, M') := by
  have hd1 : 1 ≤ d := by omega
  refine ExM.main pnX6 rfl (ls := [some (.ref 23), some (.int x1), none, none, none]) rfl ?_
  intro P hP
  rw [f_X6_takeNewName] at hf
  refine x_aload_n hP dX6_takeNewName_0 rfl ?_
  refine x_getO hP fX6_12 lay23 (r := 24) rfl dX6_takeNewName_1 ?_
  refine x_getA hP fX6_164 lay24 (r := 27) rfl dX6_takeNewName_4 ?_
  refine x_aload_n hP dX6_takeNewName_7 rfl ?_
  refine x_getI hP fX6_98 lay23 dX6_takeNewName_8 ?_
  obtain ⟨v1, hiv1, hv1, hf⟩ := b_aj hf
  refine y_lld hP lay27 hiv1 hv1 dX6_takeNewName_11 ?_
  refine x_lstore_n hP (ls2 := [some (.ref 23), some (.int x1), some (.long v1), none, none]) dX6_takeNewName_12 rfl rfl rfl ?_
  refine x_aload_n hP dX6_takeNewName_13 rfl ?_
  refine x_getO hP fX6_12 lay23 (r := 24) rfl dX6_takeNewName_14 ?_
  refine x_getA hP fX6_117 lay24 (r := 26) rfl dX6_takeNewName_17 ?_
  refine x_aload_n hP dX6_takeNewName_20 rfl ?_
  refine x_getI hP fX6_98 lay23 dX6_takeNewName_21 ?_
  obtain ⟨v2, hiv2, hv2, hf⟩ := b_ag hf
  refine y_ald hP lay26 hiv2 hv2 dX6_takeNewName_24 ?_
  refine x_istore hP (ls2 := [some (.ref 23), some (.int x1), some (.long v1), none, some (.int v2)]) dX6_takeNewName_25 rfl rfl ?_
  refine x_aload_n hP dX6_takeNewName_27 rfl ?_
  refine x_iconst hP dX6_takeNewName_28 (v := 2) rfl ?_
  obtain ⟨M4, hc3, hf⟩ := b_bd hf
  refine y_cvv hP oX6_expect lX6_79 [.int (2 : Int32)] [] rfl rfl rfl lay23 dX6_takeNewName_29 (t_X6_expect (d := d - 1) (by omega) hc3) (by omega) ?_
  refine x_aload_n hP dX6_takeNewName_32 rfl ?_
  refine x_getI hP fX6_34 lay23 dX6_takeNewName_33 ?_
  refine x_if_eq hP dX6_takeNewName_36 (tgt := 40) (by decide) (fun c5 => ?_) (fun c5 => ?_)
  · replace hf := p_t c5 hf
    refine x_aload_n hP dX6_takeNewName_40 rfl ?_
    refine x_lload_n hP dX6_takeNewName_41 rfl ?_
    obtain ⟨v7, hc6, hf⟩ := b_bd hf
    refine y_cvi hP oX6_find lX6_170 [.long v1] [] rfl rfl rfl lay23 dX6_takeNewName_42 (t_X6_find (d := d - 1) (by omega) hc6) (by omega) ?_
    refine x_iconst hP dX6_takeNewName_45 (v := (-1)) rfl ?_
    obtain ⟨t8, het8, hf⟩ := b_bd hf
    have hj8 : P 56 [some (.ref 23), some (.int x1), some (.long v1), none, none] [] LAY t8 := by
      refine x_aload_n hP dX6_takeNewName_56 rfl ?_
      refine x_getI hP fX6_101 lay23 dX6_takeNewName_57 ?_
      refine x_aload_n hP dX6_takeNewName_60 rfl ?_
      refine x_getA hP fX6_18 lay23 (r := 29) rfl dX6_takeNewName_61 ?_
      refine y_alenJ hP lay29 (v := (18 : Int32)) rfl dX6_takeNewName_64 ?_
      refine x_icmp_ge hP dX6_takeNewName_65 (tgt := 98) (by decide) (fun c12 => ?_) (fun c12 => ?_)
      · replace hf := p_t c12 hf
        cases hf
        exact x_vret hP rfl dX6_takeNewName_98
      · replace hf := p_f c12 hf
        refine x_aload_n hP dX6_takeNewName_68 rfl ?_
        refine x_getA hP fX6_18 lay23 (r := 29) rfl dX6_takeNewName_69 ?_
        refine x_aload_n hP dX6_takeNewName_72 rfl ?_
        refine x_getI hP fX6_101 lay23 dX6_takeNewName_73 ?_
        refine x_lload_n hP dX6_takeNewName_76 rfl ?_
        obtain ⟨M13, hiM13, hM13, hf⟩ := b_pj hf
        refine y_lst hP lay29 hiM13 hM13 dX6_takeNewName_77 ?_
        refine x_aload_n hP dX6_takeNewName_78 rfl ?_
        refine x_getA hP fX6_22 lay23 (r := 30) rfl dX6_takeNewName_79 ?_
        refine x_aload_n hP dX6_takeNewName_82 rfl ?_
        refine x_getI hP fX6_101 lay23 dX6_takeNewName_83 ?_
        refine x_iload_n hP dX6_takeNewName_86 rfl ?_
        obtain ⟨M14, hiM14, hM14, hf⟩ := b_pg hf
        refine y_ast hP lay30 hiM14 hM14 dX6_takeNewName_87 ?_
        refine x_aload_n hP dX6_takeNewName_88 rfl ?_
        refine x_dup hP dX6_takeNewName_89 rfl ?_
        refine x_getI hP fX6_101 lay23 dX6_takeNewName_90 ?_
        refine x_iconst hP dX6_takeNewName_93 (v := 1) rfl ?_
        refine x_iadd hP dX6_takeNewName_94 ?_
        obtain ⟨M15, hM15, hf⟩ := b_lt hf
        refine y_putI hP fX6_101 lay23 hM15 dX6_takeNewName_95 ?_
        cases hf
        exact x_vret hP rfl dX6_takeNewName_98
    clear hf
    have hf := het8
    clear het8
    refine x_icmp_eq hP dX6_takeNewName_46 (tgt := 56) (by decide) (fun c9 => ?_) (fun c9 => ?_)
    · replace hf := p_t c9 hf
      refine x_drop hP [some (.ref 23), some (.int x1), some (.long v1), none, none] (And.intro rfl (And.intro rfl (And.intro rfl trivial))) ?_
      cases hf
      exact hj8
    · replace hf := p_f c9 hf
      refine x_aload_n hP dX6_takeNewName_49 rfl ?_
      refine x_iconst hP dX6_takeNewName_50 (v := 3) rfl ?_
      refine x_iload hP dX6_takeNewName_51 rfl ?_
      obtain ⟨M11, hc10, hf⟩ := b_bd hf
      refine y_cvv hP oX6_failLater lX6_120 [.int (3 : Int32), .int v2] [] rfl rfl rfl lay23 dX6_takeNewName_53 (t_X6_failLater (d := d - 1) (by omega) hc10) (by omega) ?_
      refine x_drop hP [some (.ref 23), some (.int x1), some (.long v1), none, none] (And.intro rfl (And.intro rfl (And.intro rfl trivial))) ?_
      cases hf
      exact hj8
  · replace hf := p_f c5 hf
    cases hf
    exact x_vret hP rfl dX6_takeNewName_39
def f_X6_readCorner (M : Mem) : Option (Mem) :=
  (rT M 23 5).bind fun t1 =>
  (f_X6_passOneOf (M.1 t1 10) (7 : Int32) M).bind fun M3 =>
  (rT M3 23 5).bind fun t4 =>
  (f_X6_takeNewName (M3.1 t4 10) M3).bind fun M6 =>
  if M6.1 23 7 = 0 then
    (rT M6 23 5).bind fun t8 =>
    lt (sI M6 t8 10 ((M6.1 t8 10) + (1 : Int32))) fun M9 =>
    some M9
  else
    some M6
set_option maxHeartbeats 1000000 in
set_option maxRecDepth 20000 in
theorem t_X6_readCorner {g : GG} {d : Nat} (hd : 4 ≤ d) {M : Mem} {M' : Mem} (hf : f_X6_readCorner M = some M') : ExM g d iX6_readCorner [.ref 23] LAY M (none, LAY, M') := by
  have hd1 : 1 ≤ d := by omega
  refine ExM.main pnX6 rfl (ls := [some (.ref 23)]) rfl ?_
  intro P hP
  rw [f_X6_readCorner] at hf
  refine x_aload_n hP dX6_readCorner_0 rfl ?_
  refine x_aload_n hP dX6_readCorner_1 rfl ?_
  obtain ⟨t1, ht1, hrt1, hf⟩ := b_rT hf
  refine x_getM hP fX6_26 lay23 hrt1 dX6_readCorner_2 ?_
  refine x_getI hP fX6_104 (layT ht1) dX6_readCorner_5 ?_
  refine x_bipush hP dX6_readCorner_8 (v := 7) rfl ?_
  obtain ⟨M3, hc2, hf⟩ := b_bd hf
  refine y_cvv hP oX6_passOneOf lX6_107 [.int (M.1 t1 10), .int (7 : Int32)] [] rfl rfl rfl lay23 dX6_readCorner_10 (t_X6_passOneOf (d := d - 1) (by omega) hc2) (by omega) ?_
  refine x_aload_n hP dX6_readCorner_13 rfl ?_
  refine x_aload_n hP dX6_readCorner_14 rfl ?_
  obtain ⟨t4, ht4, hrt4, hf⟩ := b_rT hf
  refine x_getM hP fX6_26 lay23 hrt4 dX6_readCorner_15 ?_
  refine x_getI hP fX6_104 (layT ht4) dX6_readCorner_18 ?_
  obtain ⟨M6, hc5, hf⟩ := b_bd hf
  refine y_cvv hP oX6_takeNewName lX6_111 [.int (M3.1 t4 10)] [] rfl rfl rfl lay23 dX6_readCorner_21 (t_X6_takeNewName (d := d - 1) (by omega) hc5) (by omega) ?_
  refine x_aload_n hP dX6_readCorner_24 rfl ?_
  refine x_getI hP fX6_34 lay23 dX6_readCorner_25 ?_
  refine x_if_ne hP dX6_readCorner_28 (tgt := 44) (by decide) (fun c7 => ?_) (fun c7 => ?_)
  · replace hf := p_f c7 hf
    cases hf
    exact x_vret hP rfl dX6_readCorner_44
  · replace hf := p_t c7 hf
    refine x_aload_n hP dX6_readCorner_31 rfl ?_
    obtain ⟨t8, ht8, hrt8, hf⟩ := b_rT hf
    refine x_getM hP fX6_26 lay23 hrt8 dX6_readCorner_32 ?_
    refine x_dup hP dX6_readCorner_35 rfl ?_
    refine x_getI hP fX6_104 (layT ht8) dX6_readCorner_36 ?_
    refine x_iconst hP dX6_readCorner_39 (v := 1) rfl ?_
    refine x_iadd hP dX6_readCorner_40 ?_
    obtain ⟨M9, hM9, hf⟩ := b_lt hf
    refine y_putI hP fX6_104 (layT ht8) hM9 dX6_readCorner_41 ?_
    cases hf
    exact x_vret hP rfl dX6_readCorner_44
def f_X6_takeCorner (M : Mem) : Option (Int32 × Mem) :=
  (aj M 27 401 (M.1 23 6)).bind fun v1 =>
  (f_X6_find v1 M).bind fun v3 =>
  (
    if v3 = (-1 : Int32) then
      some (-1 : Int32)
    else
      (ag M 30 18 v3).bind fun v6 =>
      some v6
  ).bind fun t4 =>
  (ag M 26 401 (M.1 23 6)).bind fun v7 =>
  (f_X6_expect (2 : Int32) M).bind fun M9 =>
  if t4 = (-1 : Int32) then
    (f_X6_failLater (4 : Int32) v7 M9).bind fun M12 =>
    some (t4, M12)
  else
    some (t4, M9)
set_option maxHeartbeats 1000000 in
set_option maxRecDepth 20000 in
theorem t_X6_takeCorner {g : GG} {d : Nat} (hd : 3 ≤ d) {M : Mem} {r : Int32} {M' : Mem} (hf : f_X6_takeCorner M = some (r, M')) : ExM g d iX6_takeCorner [.ref 23] LAY M (some (.int r), LAY, M') := by
  have hd1 : 1 ≤ d := by omega
  refine ExM.main pnX6 rfl (ls := [some (.ref 23), none, none, none]) rfl ?_
  intro P hP
  rw [f_X6_takeCorner] at hf
  refine x_aload_n hP dX6_takeCorner_0 rfl ?_
  refine x_aload_n hP dX6_takeCorner_1 rfl ?_
  refine x_getO hP fX6_12 lay23 (r := 24) rfl dX6_takeCorner_2 ?_
  refine x_getA hP fX6_164 lay24 (r := 27) rfl dX6_takeCorner_5 ?_
  refine x_aload_n hP dX6_takeCorner_8 rfl ?_
  refine x_getI hP fX6_98 lay23 dX6_takeCorner_9 ?_
  obtain ⟨v1, hiv1, hv1, hf⟩ := b_aj hf
  refine y_lld hP lay27 hiv1 hv1 dX6_takeCorner_12 ?_
  obtain ⟨v3, hc2, hf⟩ := b_bd hf
  refine y_cvi hP oX6_find lX6_170 [.long v1] [] rfl rfl rfl lay23 dX6_takeCorner_13 (t_X6_find (d := d - 1) (by omega) hc2) (by omega) ?_
  refine x_istore_n hP (ls2 := [some (.ref 23), some (.int v3), none, none]) dX6_takeCorner_16 rfl rfl rfl ?_
  refine x_iload_n hP dX6_takeCorner_17 rfl ?_
  refine x_iconst hP dX6_takeCorner_18 (v := (-1)) rfl ?_
  obtain ⟨t4, het4, hf⟩ := b_bd hf
  have hj4 : P 32 [some (.ref 23), none, none, none] [.int t4] LAY M := by
    refine x_istore_n hP (ls2 := [some (.ref 23), none, some (.int t4), none]) dX6_takeCorner_32 rfl rfl rfl ?_
    refine x_aload_n hP dX6_takeCorner_33 rfl ?_
    refine x_getO hP fX6_12 lay23 (r := 24) rfl dX6_takeCorner_34 ?_
    refine x_getA hP fX6_117 lay24 (r := 26) rfl dX6_takeCorner_37 ?_
    refine x_aload_n hP dX6_takeCorner_40 rfl ?_
    refine x_getI hP fX6_98 lay23 dX6_takeCorner_41 ?_
    obtain ⟨v7, hiv7, hv7, hf⟩ := b_ag hf
    refine y_ald hP lay26 hiv7 hv7 dX6_takeCorner_44 ?_
    refine x_istore_n hP (ls2 := [some (.ref 23), none, some (.int t4), some (.int v7)]) dX6_takeCorner_45 rfl rfl rfl ?_
    refine x_aload_n hP dX6_takeCorner_46 rfl ?_
    refine x_iconst hP dX6_takeCorner_47 (v := 2) rfl ?_
    obtain ⟨M9, hc8, hf⟩ := b_bd hf
    refine y_cvv hP oX6_expect lX6_79 [.int (2 : Int32)] [] rfl rfl rfl lay23 dX6_takeCorner_48 (t_X6_expect (d := d - 1) (by omega) hc8) (by omega) ?_
    refine x_iload_n hP dX6_takeCorner_51 rfl ?_
    refine x_iconst hP dX6_takeCorner_52 (v := (-1)) rfl ?_
    refine x_icmp_ne hP dX6_takeCorner_53 (tgt := 62) (by decide) (fun c10 => ?_) (fun c10 => ?_)
    · replace hf := p_f c10 hf
      refine x_iload_n hP dX6_takeCorner_62 rfl ?_
      cases hf
      exact x_iret hP rfl dX6_takeCorner_63
    · replace hf := p_t c10 hf
      refine x_aload_n hP dX6_takeCorner_56 rfl ?_
      refine x_iconst hP dX6_takeCorner_57 (v := 4) rfl ?_
      refine x_iload_n hP dX6_takeCorner_58 rfl ?_
      obtain ⟨M12, hc11, hf⟩ := b_bd hf
      refine y_cvv hP oX6_failLater lX6_120 [.int (4 : Int32), .int v7] [] rfl rfl rfl lay23 dX6_takeCorner_59 (t_X6_failLater (d := d - 1) (by omega) hc11) (by omega) ?_
      refine x_iload_n hP dX6_takeCorner_62 rfl ?_
      cases hf
      exact x_iret hP rfl dX6_takeCorner_63
  clear hf
  have hf := het4
  clear het4
  refine x_icmp_ne hP dX6_takeCorner_19 (tgt := 26) (by decide) (fun c5 => ?_) (fun c5 => ?_)
  · replace hf := p_f c5 hf
    refine x_aload_n hP dX6_takeCorner_26 rfl ?_
    refine x_getA hP fX6_22 lay23 (r := 30) rfl dX6_takeCorner_27 ?_
    refine x_iload_n hP dX6_takeCorner_30 rfl ?_
    obtain ⟨v6, hiv6, hv6, hf⟩ := b_ag hf
    refine y_ald hP lay30 hiv6 hv6 dX6_takeCorner_31 ?_
    refine x_drop hP [some (.ref 23), none, none, none] (And.intro rfl trivial) ?_
    cases hf
    exact hj4
  · replace hf := p_t c5 hf
    refine x_iconst hP dX6_takeCorner_22 (v := (-1)) rfl ?_
    refine x_goto hP dX6_takeCorner_23 (tgt := 32) (by decide) ?_
    refine x_drop hP [some (.ref 23), none, none, none] (And.intro rfl trivial) ?_
    cases hf
    exact hj4
def f_X6_takeInt (x1 : Int32) (x2 : Int32) (M : Mem) : Option (Int32 × Mem) :=
  (aj M 27 401 (M.1 23 6)).bind fun v1 =>
  lt (v1.toInt32 : Int32) fun v2 =>
  (ag M 26 401 (M.1 23 6)).bind fun v3 =>
  (f_X6_expect (3 : Int32) M).bind fun M5 =>
  if v2 < x1 then
    (f_X6_failLater (5 : Int32) v3 M5).bind fun M8 =>
    some (v2, M8)
  else
    if v2 ≤ x2 then
      some (v2, M5)
    else
      (f_X6_failLater (5 : Int32) v3 M5).bind fun M11 =>
      some (v2, M11)
set_option maxHeartbeats 1000000 in
set_option maxRecDepth 20000 in
theorem t_X6_takeInt {g : GG} {d : Nat} (hd : 3 ≤ d) {x1 : Int32} {x2 : Int32} {M : Mem} {r : Int32} {M' : Mem} (hf : f_X6_takeInt x1 x2 M = some (r, M')) : ExM g d iX6_takeInt [.ref 23, .int x1, .int x2] LAY M (some (.int r), LAY, M') := by
  have hd1 : 1 ≤ d := by omega
  refine ExM.main pnX6 rfl (ls := [some (.ref 23), some (.int x1), some (.int x2), none, none]) rfl ?_
  intro P hP
  rw [f_X6_takeInt] at hf
  refine x_aload_n hP dX6_takeInt_0 rfl ?_
  refine x_getO hP fX6_12 lay23 (r := 24) rfl dX6_takeInt_1 ?_
  refine x_getA hP fX6_164 lay24 (r := 27) rfl dX6_takeInt_4 ?_
  refine x_aload_n hP dX6_takeInt_7 rfl ?_
  refine x_getI hP fX6_98 lay23 dX6_takeInt_8 ?_
  obtain ⟨v1, hiv1, hv1, hf⟩ := b_aj hf
  refine y_lld hP lay27 hiv1 hv1 dX6_takeInt_11 ?_
  refine x_l2i hP dX6_takeInt_12 ?_
  obtain ⟨v2, hv2, hf⟩ := b_lt hf
  refine y_nmI hv2 ?_
  refine x_istore_n hP (ls2 := [some (.ref 23), some (.int x1), some (.int x2), some (.int v2), none]) dX6_takeInt_13 rfl rfl rfl ?_
  refine x_aload_n hP dX6_takeInt_14 rfl ?_
  refine x_getO hP fX6_12 lay23 (r := 24) rfl dX6_takeInt_15 ?_
  refine x_getA hP fX6_117 lay24 (r := 26) rfl dX6_takeInt_18 ?_
  refine x_aload_n hP dX6_takeInt_21 rfl ?_
  refine x_getI hP fX6_98 lay23 dX6_takeInt_22 ?_
  obtain ⟨v3, hiv3, hv3, hf⟩ := b_ag hf
  refine y_ald hP lay26 hiv3 hv3 dX6_takeInt_25 ?_
  refine x_istore hP (ls2 := [some (.ref 23), some (.int x1), some (.int x2), some (.int v2), some (.int v3)]) dX6_takeInt_26 rfl rfl ?_
  refine x_aload_n hP dX6_takeInt_28 rfl ?_
  refine x_iconst hP dX6_takeInt_29 (v := 3) rfl ?_
  obtain ⟨M5, hc4, hf⟩ := b_bd hf
  refine y_cvv hP oX6_expect lX6_79 [.int (3 : Int32)] [] rfl rfl rfl lay23 dX6_takeInt_30 (t_X6_expect (d := d - 1) (by omega) hc4) (by omega) ?_
  refine x_iload_n hP dX6_takeInt_33 rfl ?_
  refine x_iload_n hP dX6_takeInt_34 rfl ?_
  refine x_icmp_lt hP dX6_takeInt_35 (tgt := 43) (by decide) (fun c6 => ?_) (fun c6 => ?_)
  · replace hf := p_t c6 hf
    refine x_aload_n hP dX6_takeInt_43 rfl ?_
    refine x_iconst hP dX6_takeInt_44 (v := 5) rfl ?_
    refine x_iload hP dX6_takeInt_45 rfl ?_
    obtain ⟨M8, hc7, hf⟩ := b_bd hf
    refine y_cvv hP oX6_failLater lX6_120 [.int (5 : Int32), .int v3] [] rfl rfl rfl lay23 dX6_takeInt_47 (t_X6_failLater (d := d - 1) (by omega) hc7) (by omega) ?_
    refine x_iload_n hP dX6_takeInt_50 rfl ?_
    cases hf
    exact x_iret hP rfl dX6_takeInt_51
  · replace hf := p_f c6 hf
    refine x_iload_n hP dX6_takeInt_38 rfl ?_
    refine x_iload_n hP dX6_takeInt_39 rfl ?_
    refine x_icmp_le hP dX6_takeInt_40 (tgt := 50) (by decide) (fun c9 => ?_) (fun c9 => ?_)
    · replace hf := p_t c9 hf
      refine x_iload_n hP dX6_takeInt_50 rfl ?_
      cases hf
      exact x_iret hP rfl dX6_takeInt_51
    · replace hf := p_f c9 hf
      refine x_aload_n hP dX6_takeInt_43 rfl ?_
      refine x_iconst hP dX6_takeInt_44 (v := 5) rfl ?_
      refine x_iload hP dX6_takeInt_45 rfl ?_
      obtain ⟨M11, hc10, hf⟩ := b_bd hf
      refine y_cvv hP oX6_failLater lX6_120 [.int (5 : Int32), .int v3] [] rfl rfl rfl lay23 dX6_takeInt_47 (t_X6_failLater (d := d - 1) (by omega) hc10) (by omega) ?_
      refine x_iload_n hP dX6_takeInt_50 rfl ?_
      cases hf
      exact x_iret hP rfl dX6_takeInt_51
def f_X6_readStreet (M : Mem) : Option (Mem) :=
  (rT M 23 5).bind fun t1 =>
  (f_X6_passOneOf (M.1 t1 11) (10 : Int32) M).bind fun M3 =>
  (f_X6_takeCorner M3).bind fun t5 =>
  (ag t5.2 26 401 (t5.2.1 23 6)).bind fun v6 =>
  (f_X6_takeCorner t5.2).bind fun t8 =>
  (
    if t5.1 = t8.1 then
      if t5.1 = (-1 : Int32) then
        some t8.2
      else
        (f_X6_failLater (3 : Int32) v6 t8.2).bind fun M13 =>
        some M13
    else
      some t8.2
  ).bind fun t9 =>
  (f_X6_takeInt (1 : Int32) (99 : Int32) t9).bind fun t15 =>
  if t15.2.1 23 7 = 0 then
    (rT t15.2 23 5).bind fun t17 =>
    (f_X9_addStreet t17 t5.1 t8.1 t15.1 t15.2).bind fun M19 =>
    some M19
  else
    some t15.2
set_option maxHeartbeats 1000000 in
set_option maxRecDepth 20000 in
theorem t_X6_readStreet {g : GG} {d : Nat} (hd : 4 ≤ d) {M : Mem} {M' : Mem} (hf : f_X6_readStreet M = some M') : ExM g d iX6_readStreet [.ref 23] LAY M (none, LAY, M') := by
  have hd1 : 1 ≤ d := by omega
  refine ExM.main pnX6 rfl (ls := [some (.ref 23), none, none, none, none]) rfl ?_
  intro P hP
  rw [f_X6_readStreet] at hf
  refine x_aload_n hP dX6_readStreet_0 rfl ?_
  refine x_aload_n hP dX6_readStreet_1 rfl ?_
  obtain ⟨t1, ht1, hrt1, hf⟩ := b_rT hf
  refine x_getM hP fX6_26 lay23 hrt1 dX6_readStreet_2 ?_
  refine x_getI hP fX6_114 (layT ht1) dX6_readStreet_5 ?_
  refine x_bipush hP dX6_readStreet_8 (v := 10) rfl ?_
  obtain ⟨M3, hc2, hf⟩ := b_bd hf
  refine y_cvv hP oX6_passOneOf lX6_107 [.int (M.1 t1 11), .int (10 : Int32)] [] rfl rfl rfl lay23 dX6_readStreet_10 (t_X6_passOneOf (d := d - 1) (by omega) hc2) (by omega) ?_
  refine x_aload_n hP dX6_readStreet_13 rfl ?_
  obtain ⟨t5, hc4, hf⟩ := b_bd hf
  refine y_cvi hP oX6_takeCorner lX6_57 [] [] rfl rfl rfl lay23 dX6_readStreet_14 (t_X6_takeCorner (d := d - 1) (by omega) hc4) (by omega) ?_
  refine x_istore_n hP (ls2 := [some (.ref 23), some (.int t5.1), none, none, none]) dX6_readStreet_17 rfl rfl rfl ?_
  refine x_aload_n hP dX6_readStreet_18 rfl ?_
  refine x_getO hP fX6_12 lay23 (r := 24) rfl dX6_readStreet_19 ?_
  refine x_getA hP fX6_117 lay24 (r := 26) rfl dX6_readStreet_22 ?_
  refine x_aload_n hP dX6_readStreet_25 rfl ?_
  refine x_getI hP fX6_98 lay23 dX6_readStreet_26 ?_
  obtain ⟨v6, hiv6, hv6, hf⟩ := b_ag hf
  refine y_ald hP lay26 hiv6 hv6 dX6_readStreet_29 ?_
  refine x_istore_n hP (ls2 := [some (.ref 23), some (.int t5.1), some (.int v6), none, none]) dX6_readStreet_30 rfl rfl rfl ?_
  refine x_aload_n hP dX6_readStreet_31 rfl ?_
  obtain ⟨t8, hc7, hf⟩ := b_bd hf
  refine y_cvi hP oX6_takeCorner lX6_57 [] [] rfl rfl rfl lay23 dX6_readStreet_32 (t_X6_takeCorner (d := d - 1) (by omega) hc7) (by omega) ?_
  refine x_istore_n hP (ls2 := [some (.ref 23), some (.int t5.1), some (.int v6), some (.int t8.1), none]) dX6_readStreet_35 rfl rfl rfl ?_
  refine x_iload_n hP dX6_readStreet_36 rfl ?_
  refine x_iload_n hP dX6_readStreet_37 rfl ?_
  obtain ⟨t9, het9, hf⟩ := b_bd hf
  have hj9 : P 52 [some (.ref 23), some (.int t5.1), none, some (.int t8.1), none] [] LAY t9 := by
    refine x_aload_n hP dX6_readStreet_52 rfl ?_
    refine x_iconst hP dX6_readStreet_53 (v := 1) rfl ?_
    refine x_bipush hP dX6_readStreet_54 (v := 99) rfl ?_
    obtain ⟨t15, hc14, hf⟩ := b_bd hf
    refine y_cvi hP oX6_takeInt lX6_65 [.int (1 : Int32), .int (99 : Int32)] [] rfl rfl rfl lay23 dX6_readStreet_56 (t_X6_takeInt (d := d - 1) (by omega) hc14) (by omega) ?_
    refine x_istore hP (ls2 := [some (.ref 23), some (.int t5.1), none, some (.int t8.1), some (.int t15.1)]) dX6_readStreet_59 rfl rfl ?_
    refine x_aload_n hP dX6_readStreet_61 rfl ?_
    refine x_getI hP fX6_34 lay23 dX6_readStreet_62 ?_
    refine x_if_ne hP dX6_readStreet_65 (tgt := 79) (by decide) (fun c16 => ?_) (fun c16 => ?_)
    · replace hf := p_f c16 hf
      cases hf
      exact x_vret hP rfl dX6_readStreet_79
    · replace hf := p_t c16 hf
      refine x_aload_n hP dX6_readStreet_68 rfl ?_
      obtain ⟨t17, ht17, hrt17, hf⟩ := b_rT hf
      refine x_getM hP fX6_26 lay23 hrt17 dX6_readStreet_69 ?_
      refine x_iload_n hP dX6_readStreet_72 rfl ?_
      refine x_iload_n hP dX6_readStreet_73 rfl ?_
      refine x_iload hP dX6_readStreet_74 rfl ?_
      obtain ⟨M19, hc18, hf⟩ := b_bd hf
      refine y_cvv hP oX9_addStreet lX6_123 [.int t5.1, .int t8.1, .int t15.1] [] rfl rfl rfl (layT ht17) dX6_readStreet_76 (t_X9_addStreet (d := d - 1) (by omega) ht17 hc18) (by omega) ?_
      cases hf
      exact x_vret hP rfl dX6_readStreet_79
  clear hf
  have hf := het9
  clear het9
  refine x_icmp_ne hP dX6_readStreet_38 (tgt := 52) (by decide) (fun c10 => ?_) (fun c10 => ?_)
  · replace hf := p_f c10 hf
    refine x_drop hP [some (.ref 23), some (.int t5.1), none, some (.int t8.1), none] (And.intro rfl (And.intro rfl (And.intro rfl trivial))) ?_
    cases hf
    exact hj9
  · replace hf := p_t c10 hf
    refine x_iload_n hP dX6_readStreet_41 rfl ?_
    refine x_iconst hP dX6_readStreet_42 (v := (-1)) rfl ?_
    refine x_icmp_eq hP dX6_readStreet_43 (tgt := 52) (by decide) (fun c11 => ?_) (fun c11 => ?_)
    · replace hf := p_t c11 hf
      refine x_drop hP [some (.ref 23), some (.int t5.1), none, some (.int t8.1), none] (And.intro rfl (And.intro rfl (And.intro rfl trivial))) ?_
      cases hf
      exact hj9
    · replace hf := p_f c11 hf
      refine x_aload_n hP dX6_readStreet_46 rfl ?_
      refine x_iconst hP dX6_readStreet_47 (v := 3) rfl ?_
      refine x_iload_n hP dX6_readStreet_48 rfl ?_
      obtain ⟨M13, hc12, hf⟩ := b_bd hf
      refine y_cvv hP oX6_failLater lX6_120 [.int (3 : Int32), .int v6] [] rfl rfl rfl lay23 dX6_readStreet_49 (t_X6_failLater (d := d - 1) (by omega) hc12) (by omega) ?_
      refine x_drop hP [some (.ref 23), some (.int t5.1), none, some (.int t8.1), none] (And.intro rfl (And.intro rfl (And.intro rfl trivial))) ?_
      cases hf
      exact hj9
def f_X6_readYoung (M : Mem) : Option (Mem) :=
  (rT M 23 5).bind fun t1 =>
  (f_X6_passOneOf (M.1 t1 12) (6 : Int32) M).bind fun M3 =>
  (f_X6_takeNewName (-1 : Int32) M3).bind fun M5 =>
  (f_X6_takeInt (10 : Int32) (40 : Int32) M5).bind fun t7 =>
  (f_X6_takeInt (0 : Int32) (9 : Int32) t7.2).bind fun t9 =>
  (f_X6_takeCorner t9.2).bind fun t11 =>
  if t11.2.1 23 7 = 0 then
    (rT t11.2 23 5).bind fun t13 =>
    (f_X9_addYoung t13 t7.1 t9.1 t11.1 t11.2).bind fun M15 =>
    some M15
  else
    some t11.2
set_option maxHeartbeats 1000000 in
set_option maxRecDepth 20000 in
theorem t_X6_readYoung {g : GG} {d : Nat} (hd : 4 ≤ d) {M : Mem} {M' : Mem} (hf : f_X6_readYoung M = some M') : ExM g d iX6_readYoung [.ref 23] LAY M (none, LAY, M') := by
  have hd1 : 1 ≤ d := by omega
  refine ExM.main pnX6 rfl (ls := [some (.ref 23), none, none, none]) rfl ?_
  intro P hP
  rw [f_X6_readYoung] at hf
  refine x_aload_n hP dX6_readYoung_0 rfl ?_
  refine x_aload_n hP dX6_readYoung_1 rfl ?_
  obtain ⟨t1, ht1, hrt1, hf⟩ := b_rT hf
  refine x_getM hP fX6_26 lay23 hrt1 dX6_readYoung_2 ?_
  refine x_getI hP fX6_127 (layT ht1) dX6_readYoung_5 ?_
  refine x_bipush hP dX6_readYoung_8 (v := 6) rfl ?_
  obtain ⟨M3, hc2, hf⟩ := b_bd hf
  refine y_cvv hP oX6_passOneOf lX6_107 [.int (M.1 t1 12), .int (6 : Int32)] [] rfl rfl rfl lay23 dX6_readYoung_10 (t_X6_passOneOf (d := d - 1) (by omega) hc2) (by omega) ?_
  refine x_aload_n hP dX6_readYoung_13 rfl ?_
  refine x_iconst hP dX6_readYoung_14 (v := (-1)) rfl ?_
  obtain ⟨M5, hc4, hf⟩ := b_bd hf
  refine y_cvv hP oX6_takeNewName lX6_111 [.int (-1 : Int32)] [] rfl rfl rfl lay23 dX6_readYoung_15 (t_X6_takeNewName (d := d - 1) (by omega) hc4) (by omega) ?_
  refine x_aload_n hP dX6_readYoung_18 rfl ?_
  refine x_bipush hP dX6_readYoung_19 (v := 10) rfl ?_
  refine x_bipush hP dX6_readYoung_21 (v := 40) rfl ?_
  obtain ⟨t7, hc6, hf⟩ := b_bd hf
  refine y_cvi hP oX6_takeInt lX6_65 [.int (10 : Int32), .int (40 : Int32)] [] rfl rfl rfl lay23 dX6_readYoung_23 (t_X6_takeInt (d := d - 1) (by omega) hc6) (by omega) ?_
  refine x_istore_n hP (ls2 := [some (.ref 23), some (.int t7.1), none, none]) dX6_readYoung_26 rfl rfl rfl ?_
  refine x_aload_n hP dX6_readYoung_27 rfl ?_
  refine x_iconst hP dX6_readYoung_28 (v := 0) rfl ?_
  refine x_bipush hP dX6_readYoung_29 (v := 9) rfl ?_
  obtain ⟨t9, hc8, hf⟩ := b_bd hf
  refine y_cvi hP oX6_takeInt lX6_65 [.int (0 : Int32), .int (9 : Int32)] [] rfl rfl rfl lay23 dX6_readYoung_31 (t_X6_takeInt (d := d - 1) (by omega) hc8) (by omega) ?_
  refine x_istore_n hP (ls2 := [some (.ref 23), some (.int t7.1), some (.int t9.1), none]) dX6_readYoung_34 rfl rfl rfl ?_
  refine x_aload_n hP dX6_readYoung_35 rfl ?_
  obtain ⟨t11, hc10, hf⟩ := b_bd hf
  refine y_cvi hP oX6_takeCorner lX6_57 [] [] rfl rfl rfl lay23 dX6_readYoung_36 (t_X6_takeCorner (d := d - 1) (by omega) hc10) (by omega) ?_
  refine x_istore_n hP (ls2 := [some (.ref 23), some (.int t7.1), some (.int t9.1), some (.int t11.1)]) dX6_readYoung_39 rfl rfl rfl ?_
  refine x_aload_n hP dX6_readYoung_40 rfl ?_
  refine x_getI hP fX6_34 lay23 dX6_readYoung_41 ?_
  refine x_if_ne hP dX6_readYoung_44 (tgt := 57) (by decide) (fun c12 => ?_) (fun c12 => ?_)
  · replace hf := p_f c12 hf
    cases hf
    exact x_vret hP rfl dX6_readYoung_57
  · replace hf := p_t c12 hf
    refine x_aload_n hP dX6_readYoung_47 rfl ?_
    obtain ⟨t13, ht13, hrt13, hf⟩ := b_rT hf
    refine x_getM hP fX6_26 lay23 hrt13 dX6_readYoung_48 ?_
    refine x_iload_n hP dX6_readYoung_51 rfl ?_
    refine x_iload_n hP dX6_readYoung_52 rfl ?_
    refine x_iload_n hP dX6_readYoung_53 rfl ?_
    obtain ⟨M15, hc14, hf⟩ := b_bd hf
    refine y_cvv hP oX9_addYoung lX6_130 [.int t7.1, .int t9.1, .int t11.1] [] rfl rfl rfl (layT ht13) dX6_readYoung_54 (t_X9_addYoung (d := d - 1) (by omega) ht13 hc14) (by omega) ?_
    cases hf
    exact x_vret hP rfl dX6_readYoung_57
def f_X6_readWord (M : Mem) : Option (Mem) :=
  (rT M 23 5).bind fun t1 =>
  (f_X6_passOneOf (M.1 t1 13) (5 : Int32) M).bind fun M3 =>
  (f_X6_takeNewName (-1 : Int32) M3).bind fun M5 =>
  (f_X6_takeInt (0 : Int32) (99 : Int32) M5).bind fun t7 =>
  if t7.2.1 23 7 = 0 then
    (rT t7.2 23 5).bind fun t9 =>
    (f_X9_addWord t9 t7.1 t7.2).bind fun M11 =>
    some M11
  else
    some t7.2
set_option maxHeartbeats 1000000 in
set_option maxRecDepth 20000 in
theorem t_X6_readWord {g : GG} {d : Nat} (hd : 4 ≤ d) {M : Mem} {M' : Mem} (hf : f_X6_readWord M = some M') : ExM g d iX6_readWord [.ref 23] LAY M (none, LAY, M') := by
  have hd1 : 1 ≤ d := by omega
  refine ExM.main pnX6 rfl (ls := [some (.ref 23), none]) rfl ?_
  intro P hP
  rw [f_X6_readWord] at hf
  refine x_aload_n hP dX6_readWord_0 rfl ?_
  refine x_aload_n hP dX6_readWord_1 rfl ?_
  obtain ⟨t1, ht1, hrt1, hf⟩ := b_rT hf
  refine x_getM hP fX6_26 lay23 hrt1 dX6_readWord_2 ?_
  refine x_getI hP fX6_133 (layT ht1) dX6_readWord_5 ?_
  refine x_iconst hP dX6_readWord_8 (v := 5) rfl ?_
  obtain ⟨M3, hc2, hf⟩ := b_bd hf
  refine y_cvv hP oX6_passOneOf lX6_107 [.int (M.1 t1 13), .int (5 : Int32)] [] rfl rfl rfl lay23 dX6_readWord_9 (t_X6_passOneOf (d := d - 1) (by omega) hc2) (by omega) ?_
  refine x_aload_n hP dX6_readWord_12 rfl ?_
  refine x_iconst hP dX6_readWord_13 (v := (-1)) rfl ?_
  obtain ⟨M5, hc4, hf⟩ := b_bd hf
  refine y_cvv hP oX6_takeNewName lX6_111 [.int (-1 : Int32)] [] rfl rfl rfl lay23 dX6_readWord_14 (t_X6_takeNewName (d := d - 1) (by omega) hc4) (by omega) ?_
  refine x_aload_n hP dX6_readWord_17 rfl ?_
  refine x_iconst hP dX6_readWord_18 (v := 0) rfl ?_
  refine x_bipush hP dX6_readWord_19 (v := 99) rfl ?_
  obtain ⟨t7, hc6, hf⟩ := b_bd hf
  refine y_cvi hP oX6_takeInt lX6_65 [.int (0 : Int32), .int (99 : Int32)] [] rfl rfl rfl lay23 dX6_readWord_21 (t_X6_takeInt (d := d - 1) (by omega) hc6) (by omega) ?_
  refine x_istore_n hP (ls2 := [some (.ref 23), some (.int t7.1)]) dX6_readWord_24 rfl rfl rfl ?_
  refine x_aload_n hP dX6_readWord_25 rfl ?_
  refine x_getI hP fX6_34 lay23 dX6_readWord_26 ?_
  refine x_if_ne hP dX6_readWord_29 (tgt := 40) (by decide) (fun c8 => ?_) (fun c8 => ?_)
  · replace hf := p_f c8 hf
    cases hf
    exact x_vret hP rfl dX6_readWord_40
  · replace hf := p_t c8 hf
    refine x_aload_n hP dX6_readWord_32 rfl ?_
    obtain ⟨t9, ht9, hrt9, hf⟩ := b_rT hf
    refine x_getM hP fX6_26 lay23 hrt9 dX6_readWord_33 ?_
    refine x_iload_n hP dX6_readWord_36 rfl ?_
    obtain ⟨M11, hc10, hf⟩ := b_bd hf
    refine y_cvv hP oX9_addWord lX6_136 [.int t7.1] [] rfl rfl rfl (layT ht9) dX6_readWord_37 (t_X9_addWord (d := d - 1) (by omega) ht9 hc10) (by omega) ?_
    cases hf
    exact x_vret hP rfl dX6_readWord_40
def g_X6_readUnit (rv : Int32 → Int32 → Mem → Option (Mem)) (ru : Int32 → Mem → Option (Mem)) (x1 : Int32) (M : Mem) : Option (Mem) :=
  (f_X6_kind M).bind fun v2 =>
  if v2 = (3 : Int32) then
    (rT M 23 5).bind fun t4 =>
    (aj M 27 401 (M.1 23 6)).bind fun v5 =>
    (f_X9_emit t4 (0 : Int32) v5.toInt32 M).bind fun M7 =>
    (f_X6_pass M7).bind fun M9 =>
    some M9
  else
    if v2 < (142 : Int32) then
      if v2 = (40 : Int32) then
        if x1 < (6 : Int32) then
          if M.1 23 7 = 0 then
            (f_X6_pass M).bind fun M15 =>
            (rv (0 : Int32) (x1 + (1 : Int32)) M15).bind fun M17 =>
            (f_X6_expect (41 : Int32) M17).bind fun M19 =>
            some M19
          else
            some M
        else
          (f_X6_fail (2 : Int32) M).bind fun M21 =>
          some M21
      else
        (f_X6_fail (1 : Int32) M).bind fun M23 =>
        some M23
    else
      if (150 : Int32) < v2 then
        if v2 = (40 : Int32) then
          if x1 < (6 : Int32) then
            if M.1 23 7 = 0 then
              (f_X6_pass M).bind fun M29 =>
              (rv (0 : Int32) (x1 + (1 : Int32)) M29).bind fun M31 =>
              (f_X6_expect (41 : Int32) M31).bind fun M33 =>
              some M33
            else
              some M
          else
            (f_X6_fail (2 : Int32) M).bind fun M35 =>
            some M35
        else
          (f_X6_fail (1 : Int32) M).bind fun M37 =>
          some M37
      else
        (rT M 23 5).bind fun t38 =>
        (f_X9_emit t38 (1 : Int32) (v2 - (142 : Int32)) M).bind fun M40 =>
        (f_X6_pass M40).bind fun M42 =>
        some M42
set_option maxHeartbeats 1000000 in
set_option maxRecDepth 20000 in
theorem tg_X6_readUnit {g : GG} {d : Nat} {rv : Int32 → Int32 → Mem → Option (Mem)} {ru : Int32 → Mem → Option (Mem)} (hd : 6 ≤ d) (hrec_X6_readValue : ∀ {x1 : Int32} {x2 : Int32} {M : Mem} {M' : Mem}, rv x1 x2 M = some M' → ExM g (d - 1) iX6_readValue [.ref 23, .int x1, .int x2] LAY M (none, LAY, M')) (hrec_X6_readUnit : ∀ {x1 : Int32} {M : Mem} {M' : Mem}, ru x1 M = some M' → ExM g (d - 1) iX6_readUnit [.ref 23, .int x1] LAY M (none, LAY, M')) {x1 : Int32} {M : Mem} {M' : Mem} (hf : g_X6_readUnit rv ru x1 M = some M') : ExM g d iX6_readUnit [.ref 23, .int x1] LAY M (none, LAY, M') := by
  have hd1 : 1 ≤ d := by omega
  refine ExM.main pnX6 rfl (ls := [some (.ref 23), some (.int x1), none]) rfl ?_
  intro P hP
  rw [g_X6_readUnit] at hf
  refine x_aload_n hP dX6_readUnit_0 rfl ?_
  obtain ⟨v2, hc1, hf⟩ := b_bd hf
  refine y_cvi hP oX6_kind lX6_38 [] [] rfl rfl rfl lay23 dX6_readUnit_1 (t_X6_kind (d := d - 1) (by omega) hc1) (by omega) ?_
  refine x_istore_n hP (ls2 := [some (.ref 23), some (.int x1), some (.int v2)]) dX6_readUnit_4 rfl rfl rfl ?_
  refine x_iload_n hP dX6_readUnit_5 rfl ?_
  refine x_iconst hP dX6_readUnit_6 (v := 3) rfl ?_
  refine x_icmp_ne hP dX6_readUnit_7 (tgt := 38) (by decide) (fun c3 => ?_) (fun c3 => ?_)
  · replace hf := p_f c3 hf
    refine x_iload_n hP dX6_readUnit_38 rfl ?_
    refine x_sipush hP dX6_readUnit_39 (v := 142) rfl ?_
    refine x_icmp_lt hP dX6_readUnit_42 (tgt := 72) (by decide) (fun c10 => ?_) (fun c10 => ?_)
    · replace hf := p_t c10 hf
      refine x_iload_n hP dX6_readUnit_72 rfl ?_
      refine x_bipush hP dX6_readUnit_73 (v := 40) rfl ?_
      refine x_icmp_eq hP dX6_readUnit_75 (tgt := 86) (by decide) (fun c11 => ?_) (fun c11 => ?_)
      · replace hf := p_t c11 hf
        refine x_iload_n hP dX6_readUnit_86 rfl ?_
        refine x_bipush hP dX6_readUnit_87 (v := 6) rfl ?_
        refine x_icmp_lt hP dX6_readUnit_89 (tgt := 100) (by decide) (fun c12 => ?_) (fun c12 => ?_)
        · replace hf := p_t c12 hf
          refine x_aload_n hP dX6_readUnit_100 rfl ?_
          refine x_getI hP fX6_34 lay23 dX6_readUnit_101 ?_
          refine x_if_ne hP dX6_readUnit_104 (tgt := 125) (by decide) (fun c13 => ?_) (fun c13 => ?_)
          · replace hf := p_f c13 hf
            cases hf
            exact x_vret hP rfl dX6_readUnit_125
          · replace hf := p_t c13 hf
            refine x_aload_n hP dX6_readUnit_107 rfl ?_
            obtain ⟨M15, hc14, hf⟩ := b_bd hf
            refine y_cvv hP oX6_pass lX6_54 [] [] rfl rfl rfl lay23 dX6_readUnit_108 (t_X6_pass (d := d - 1) (by omega) hc14) (by omega) ?_
            refine x_aload_n hP dX6_readUnit_111 rfl ?_
            refine x_iconst hP dX6_readUnit_112 (v := 0) rfl ?_
            refine x_iload_n hP dX6_readUnit_113 rfl ?_
            refine x_iconst hP dX6_readUnit_114 (v := 1) rfl ?_
            refine x_iadd hP dX6_readUnit_115 ?_
            obtain ⟨M17, hc16, hf⟩ := b_bd hf
            refine y_cvv hP oX6_readValue lX6_148 [.int (0 : Int32), .int (x1 + (1 : Int32))] [] rfl rfl rfl lay23 dX6_readUnit_116 (hrec_X6_readValue hc16) (by omega) ?_
            refine x_aload_n hP dX6_readUnit_119 rfl ?_
            refine x_bipush hP dX6_readUnit_120 (v := 41) rfl ?_
            obtain ⟨M19, hc18, hf⟩ := b_bd hf
            refine y_cvv hP oX6_expect lX6_79 [.int (41 : Int32)] [] rfl rfl rfl lay23 dX6_readUnit_122 (t_X6_expect (d := d - 1) (by omega) hc18) (by omega) ?_
            cases hf
            exact x_vret hP rfl dX6_readUnit_125
        · replace hf := p_f c12 hf
          refine x_aload_n hP dX6_readUnit_92 rfl ?_
          refine x_iconst hP dX6_readUnit_93 (v := 2) rfl ?_
          obtain ⟨M21, hc20, hf⟩ := b_bd hf
          refine y_cvv hP oX6_fail lX6_139 [.int (2 : Int32)] [] rfl rfl rfl lay23 dX6_readUnit_94 (t_X6_fail (d := d - 1) (by omega) hc20) (by omega) ?_
          refine x_goto hP dX6_readUnit_97 (tgt := 125) (by decide) ?_
          cases hf
          exact x_vret hP rfl dX6_readUnit_125
      · replace hf := p_f c11 hf
        refine x_aload_n hP dX6_readUnit_78 rfl ?_
        refine x_iconst hP dX6_readUnit_79 (v := 1) rfl ?_
        obtain ⟨M23, hc22, hf⟩ := b_bd hf
        refine y_cvv hP oX6_fail lX6_139 [.int (1 : Int32)] [] rfl rfl rfl lay23 dX6_readUnit_80 (t_X6_fail (d := d - 1) (by omega) hc22) (by omega) ?_
        refine x_goto hP dX6_readUnit_83 (tgt := 125) (by decide) ?_
        cases hf
        exact x_vret hP rfl dX6_readUnit_125
    · replace hf := p_f c10 hf
      refine x_iload_n hP dX6_readUnit_45 rfl ?_
      refine x_sipush hP dX6_readUnit_46 (v := 150) rfl ?_
      refine x_icmp_gt hP dX6_readUnit_49 (tgt := 72) (by decide) (fun c24 => ?_) (fun c24 => ?_)
      · replace hf := p_t c24 hf
        refine x_iload_n hP dX6_readUnit_72 rfl ?_
        refine x_bipush hP dX6_readUnit_73 (v := 40) rfl ?_
        refine x_icmp_eq hP dX6_readUnit_75 (tgt := 86) (by decide) (fun c25 => ?_) (fun c25 => ?_)
        · replace hf := p_t c25 hf
          refine x_iload_n hP dX6_readUnit_86 rfl ?_
          refine x_bipush hP dX6_readUnit_87 (v := 6) rfl ?_
          refine x_icmp_lt hP dX6_readUnit_89 (tgt := 100) (by decide) (fun c26 => ?_) (fun c26 => ?_)
          · replace hf := p_t c26 hf
            refine x_aload_n hP dX6_readUnit_100 rfl ?_
            refine x_getI hP fX6_34 lay23 dX6_readUnit_101 ?_
            refine x_if_ne hP dX6_readUnit_104 (tgt := 125) (by decide) (fun c27 => ?_) (fun c27 => ?_)
            · replace hf := p_f c27 hf
              cases hf
              exact x_vret hP rfl dX6_readUnit_125
            · replace hf := p_t c27 hf
              refine x_aload_n hP dX6_readUnit_107 rfl ?_
              obtain ⟨M29, hc28, hf⟩ := b_bd hf
              refine y_cvv hP oX6_pass lX6_54 [] [] rfl rfl rfl lay23 dX6_readUnit_108 (t_X6_pass (d := d - 1) (by omega) hc28) (by omega) ?_
              refine x_aload_n hP dX6_readUnit_111 rfl ?_
              refine x_iconst hP dX6_readUnit_112 (v := 0) rfl ?_
              refine x_iload_n hP dX6_readUnit_113 rfl ?_
              refine x_iconst hP dX6_readUnit_114 (v := 1) rfl ?_
              refine x_iadd hP dX6_readUnit_115 ?_
              obtain ⟨M31, hc30, hf⟩ := b_bd hf
              refine y_cvv hP oX6_readValue lX6_148 [.int (0 : Int32), .int (x1 + (1 : Int32))] [] rfl rfl rfl lay23 dX6_readUnit_116 (hrec_X6_readValue hc30) (by omega) ?_
              refine x_aload_n hP dX6_readUnit_119 rfl ?_
              refine x_bipush hP dX6_readUnit_120 (v := 41) rfl ?_
              obtain ⟨M33, hc32, hf⟩ := b_bd hf
              refine y_cvv hP oX6_expect lX6_79 [.int (41 : Int32)] [] rfl rfl rfl lay23 dX6_readUnit_122 (t_X6_expect (d := d - 1) (by omega) hc32) (by omega) ?_
              cases hf
              exact x_vret hP rfl dX6_readUnit_125
          · replace hf := p_f c26 hf
            refine x_aload_n hP dX6_readUnit_92 rfl ?_
            refine x_iconst hP dX6_readUnit_93 (v := 2) rfl ?_
            obtain ⟨M35, hc34, hf⟩ := b_bd hf
            refine y_cvv hP oX6_fail lX6_139 [.int (2 : Int32)] [] rfl rfl rfl lay23 dX6_readUnit_94 (t_X6_fail (d := d - 1) (by omega) hc34) (by omega) ?_
            refine x_goto hP dX6_readUnit_97 (tgt := 125) (by decide) ?_
            cases hf
            exact x_vret hP rfl dX6_readUnit_125
        · replace hf := p_f c25 hf
          refine x_aload_n hP dX6_readUnit_78 rfl ?_
          refine x_iconst hP dX6_readUnit_79 (v := 1) rfl ?_
          obtain ⟨M37, hc36, hf⟩ := b_bd hf
          refine y_cvv hP oX6_fail lX6_139 [.int (1 : Int32)] [] rfl rfl rfl lay23 dX6_readUnit_80 (t_X6_fail (d := d - 1) (by omega) hc36) (by omega) ?_
          refine x_goto hP dX6_readUnit_83 (tgt := 125) (by decide) ?_
          cases hf
          exact x_vret hP rfl dX6_readUnit_125
      · replace hf := p_f c24 hf
        refine x_aload_n hP dX6_readUnit_52 rfl ?_
        obtain ⟨t38, ht38, hrt38, hf⟩ := b_rT hf
        refine x_getM hP fX6_26 lay23 hrt38 dX6_readUnit_53 ?_
        refine x_iconst hP dX6_readUnit_56 (v := 1) rfl ?_
        refine x_iload_n hP dX6_readUnit_57 rfl ?_
        refine x_sipush hP dX6_readUnit_58 (v := 142) rfl ?_
        refine x_isub hP dX6_readUnit_61 ?_
        obtain ⟨M40, hc39, hf⟩ := b_bd hf
        refine y_cvv hP oX9_emit lX6_151 [.int (1 : Int32), .int (v2 - (142 : Int32))] [] rfl rfl rfl (layT ht38) dX6_readUnit_62 (t_X9_emit (d := d - 1) (by omega) ht38 hc39) (by omega) ?_
        refine x_aload_n hP dX6_readUnit_65 rfl ?_
        obtain ⟨M42, hc41, hf⟩ := b_bd hf
        refine y_cvv hP oX6_pass lX6_54 [] [] rfl rfl rfl lay23 dX6_readUnit_66 (t_X6_pass (d := d - 1) (by omega) hc41) (by omega) ?_
        refine x_goto hP dX6_readUnit_69 (tgt := 125) (by decide) ?_
        cases hf
        exact x_vret hP rfl dX6_readUnit_125
  · replace hf := p_t c3 hf
    refine x_aload_n hP dX6_readUnit_10 rfl ?_
    obtain ⟨t4, ht4, hrt4, hf⟩ := b_rT hf
    refine x_getM hP fX6_26 lay23 hrt4 dX6_readUnit_11 ?_
    refine x_iconst hP dX6_readUnit_14 (v := 0) rfl ?_
    refine x_aload_n hP dX6_readUnit_15 rfl ?_
    refine x_getO hP fX6_12 lay23 (r := 24) rfl dX6_readUnit_16 ?_
    refine x_getA hP fX6_164 lay24 (r := 27) rfl dX6_readUnit_19 ?_
    refine x_aload_n hP dX6_readUnit_22 rfl ?_
    refine x_getI hP fX6_98 lay23 dX6_readUnit_23 ?_
    obtain ⟨v5, hiv5, hv5, hf⟩ := b_aj hf
    refine y_lld hP lay27 hiv5 hv5 dX6_readUnit_26 ?_
    refine x_l2i hP dX6_readUnit_27 ?_
    obtain ⟨M7, hc6, hf⟩ := b_bd hf
    refine y_cvv hP oX9_emit lX6_151 [.int (0 : Int32), .int v5.toInt32] [] rfl rfl rfl (layT ht4) dX6_readUnit_28 (t_X9_emit (d := d - 1) (by omega) ht4 hc6) (by omega) ?_
    refine x_aload_n hP dX6_readUnit_31 rfl ?_
    obtain ⟨M9, hc8, hf⟩ := b_bd hf
    refine y_cvv hP oX6_pass lX6_54 [] [] rfl rfl rfl lay23 dX6_readUnit_32 (t_X6_pass (d := d - 1) (by omega) hc8) (by omega) ?_
    refine x_goto hP dX6_readUnit_35 (tgt := 125) (by decide) ?_
    cases hf
    exact x_vret hP rfl dX6_readUnit_125
def f_X6_levelOf (x0 : Int32) : Option (Int32) :=
  if x0 = (43 : Int32) then
    some (0 : Int32)
  else
    if x0 = (45 : Int32) then
      some (0 : Int32)
    else
      if x0 = (42 : Int32) then
        some (1 : Int32)
      else
        if x0 = (47 : Int32) then
          some (1 : Int32)
        else
          some (-1 : Int32)
set_option maxHeartbeats 1000000 in
set_option maxRecDepth 20000 in
theorem t_X6_levelOf {g : GG} {L : List Lay} {d : Nat} (hd : 1 ≤ d) {x0 : Int32} {M : Mem} {r : Int32} (hf : f_X6_levelOf x0 = some r) : ExM g d iX6_levelOf [.int x0] L M (some (.int r), L, M) := by
  have hd1 : 1 ≤ d := by omega
  refine ExM.main pnX6 rfl (ls := [some (.int x0)]) rfl ?_
  intro P hP
  rw [f_X6_levelOf] at hf
  refine x_iload_n hP dX6_levelOf_0 rfl ?_
  refine x_bipush hP dX6_levelOf_1 (v := 43) rfl ?_
  refine x_icmp_eq hP dX6_levelOf_3 (tgt := 12) (by decide) (fun c1 => ?_) (fun c1 => ?_)
  · replace hf := p_t c1 hf
    refine x_iconst hP dX6_levelOf_12 (v := 0) rfl ?_
    cases hf
    exact x_iret hP rfl dX6_levelOf_13
  · replace hf := p_f c1 hf
    refine x_iload_n hP dX6_levelOf_6 rfl ?_
    refine x_bipush hP dX6_levelOf_7 (v := 45) rfl ?_
    refine x_icmp_ne hP dX6_levelOf_9 (tgt := 14) (by decide) (fun c2 => ?_) (fun c2 => ?_)
    · replace hf := p_f c2 hf
      refine x_iload_n hP dX6_levelOf_14 rfl ?_
      refine x_bipush hP dX6_levelOf_15 (v := 42) rfl ?_
      refine x_icmp_eq hP dX6_levelOf_17 (tgt := 26) (by decide) (fun c3 => ?_) (fun c3 => ?_)
      · replace hf := p_t c3 hf
        refine x_iconst hP dX6_levelOf_26 (v := 1) rfl ?_
        refine x_goto hP dX6_levelOf_27 (tgt := 31) (by decide) ?_
        cases hf
        exact x_iret hP rfl dX6_levelOf_31
      · replace hf := p_f c3 hf
        refine x_iload_n hP dX6_levelOf_20 rfl ?_
        refine x_bipush hP dX6_levelOf_21 (v := 47) rfl ?_
        refine x_icmp_ne hP dX6_levelOf_23 (tgt := 30) (by decide) (fun c4 => ?_) (fun c4 => ?_)
        · replace hf := p_f c4 hf
          refine x_iconst hP dX6_levelOf_30 (v := (-1)) rfl ?_
          cases hf
          exact x_iret hP rfl dX6_levelOf_31
        · replace hf := p_t c4 hf
          refine x_iconst hP dX6_levelOf_26 (v := 1) rfl ?_
          refine x_goto hP dX6_levelOf_27 (tgt := 31) (by decide) ?_
          cases hf
          exact x_iret hP rfl dX6_levelOf_31
    · replace hf := p_t c2 hf
      refine x_iconst hP dX6_levelOf_12 (v := 0) rfl ?_
      cases hf
      exact x_iret hP rfl dX6_levelOf_13
def f_X6_readValue_L21 (rv : Int32 → Int32 → Mem → Option (Mem)) (ru : Int32 → Mem → Option (Mem)) : Nat → Int32 → Int32 → Int32 → Mem → Option (Mem)
  | 0, _, _, _, _ => none
  | fu + 1, l1, l2, l3, M =>
    if (401 : Int32) ≤ l3 then
      some M
    else
      if M.1 23 7 = 0 then
        (f_X6_kind M).bind fun v7 =>
        (f_X6_levelOf v7).bind fun v9 =>
        if v9 = l1 then
          (f_X6_kind M).bind fun v12 =>
          (f_X6_pass M).bind fun M14 =>
          (rv (l1 + (1 : Int32)) l2 M14).bind fun M16 =>
          (rT M16 23 5).bind fun t17 =>
          (f_X9_emit t17 v12 (0 : Int32) M16).bind fun M19 =>
          lt (l3 + 1 : Int32) fun v20 =>
          f_X6_readValue_L21 rv ru fu l1 l2 v20 M19
        else
          some M
      else
        some M
def g_X6_readValue (rv : Int32 → Int32 → Mem → Option (Mem)) (ru : Int32 → Mem → Option (Mem)) (x1 : Int32) (x2 : Int32) (M : Mem) : Option (Mem) :=
  if x1 < (2 : Int32) then
    (rv (x1 + (1 : Int32)) x2 M).bind fun M3 =>
    (f_X6_readValue_L21 rv ru FU x1 x2 (0 : Int32) M3).bind fun t21 =>
    some t21
  else
    (ru x2 M).bind fun M24 =>
    some M24
set_option maxHeartbeats 1000000 in
set_option maxRecDepth 20000 in
theorem t_X6_readValue_L21 {g : GG} {d : Nat} {P : PT} {res : Option RS} {rv : Int32 → Int32 → Mem → Option (Mem)} {ru : Int32 → Mem → Option (Mem)} (hd : 6 ≤ d) (hrec_X6_readValue : ∀ {x1 : Int32} {x2 : Int32} {M : Mem} {M' : Mem}, rv x1 x2 M = some M' → ExM g (d - 1) iX6_readValue [.ref 23, .int x1, .int x2] LAY M (none, LAY, M')) (hrec_X6_readUnit : ∀ {x1 : Int32} {M : Mem} {M' : Mem}, ru x1 M = some M' → ExM g (d - 1) iX6_readUnit [.ref 23, .int x1] LAY M (none, LAY, M'))  (hP : IsM g iX6_readValue d res P) : ∀ (fu : Nat) (l1 : Int32) (l2 : Int32) (l3 : Int32) (M : Mem) (t : Mem), f_X6_readValue_L21 rv ru fu l1 l2 l3 M = some t → P 80 [none, none, none, none, none] [] LAY t → P 21 [some (.ref 23), some (.int l1), some (.int l2), some (.int l3), none] [] LAY M := by
  have hd1 : 1 ≤ d := by omega
  intro fu
  induction fu with
  | zero => intro l1 l2 l3 M t hf; simp [f_X6_readValue_L21] at hf
  | succ fu ih =>
    intro l1 l2 l3 M t hf hx
    rw [f_X6_readValue_L21] at hf
    refine x_iload_n hP dX6_readValue_21 rfl ?_
    refine x_sipush hP dX6_readValue_22 (v := 401) rfl ?_
    refine x_icmp_ge hP dX6_readValue_25 (tgt := 80) (by decide) (fun c4 => ?_) (fun c4 => ?_)
    · replace hf := p_t c4 hf
      refine x_drop hP [none, none, none, none, none] trivial ?_
      cases hf
      exact hx
    · replace hf := p_f c4 hf
      refine x_aload_n hP dX6_readValue_28 rfl ?_
      refine x_getI hP fX6_34 lay23 dX6_readValue_29 ?_
      refine x_if_ne hP dX6_readValue_32 (tgt := 80) (by decide) (fun c5 => ?_) (fun c5 => ?_)
      · replace hf := p_f c5 hf
        refine x_drop hP [none, none, none, none, none] trivial ?_
        cases hf
        exact hx
      · replace hf := p_t c5 hf
        refine x_aload_n hP dX6_readValue_35 rfl ?_
        obtain ⟨v7, hc6, hf⟩ := b_bd hf
        refine y_cvi hP oX6_kind lX6_38 [] [] rfl rfl rfl lay23 dX6_readValue_36 (t_X6_kind (d := d - 1) (by omega) hc6) (by omega) ?_
        obtain ⟨v9, hc8, hf⟩ := b_bd hf
        refine y_csi hP oX6_levelOf lX6_160 [.int v7] [] rfl rfl rfl dX6_readValue_39 (t_X6_levelOf (d := d - 1) (by omega) hc8) (by omega) ?_
        refine x_iload_n hP dX6_readValue_42 rfl ?_
        refine x_icmp_ne hP dX6_readValue_43 (tgt := 80) (by decide) (fun c10 => ?_) (fun c10 => ?_)
        · replace hf := p_f c10 hf
          refine x_drop hP [none, none, none, none, none] trivial ?_
          cases hf
          exact hx
        · replace hf := p_t c10 hf
          refine x_aload_n hP dX6_readValue_46 rfl ?_
          obtain ⟨v12, hc11, hf⟩ := b_bd hf
          refine y_cvi hP oX6_kind lX6_38 [] [] rfl rfl rfl lay23 dX6_readValue_47 (t_X6_kind (d := d - 1) (by omega) hc11) (by omega) ?_
          refine x_istore hP (ls2 := [some (.ref 23), some (.int l1), some (.int l2), some (.int l3), some (.int v12)]) dX6_readValue_50 rfl rfl ?_
          refine x_aload_n hP dX6_readValue_52 rfl ?_
          obtain ⟨M14, hc13, hf⟩ := b_bd hf
          refine y_cvv hP oX6_pass lX6_54 [] [] rfl rfl rfl lay23 dX6_readValue_53 (t_X6_pass (d := d - 1) (by omega) hc13) (by omega) ?_
          refine x_aload_n hP dX6_readValue_56 rfl ?_
          refine x_iload_n hP dX6_readValue_57 rfl ?_
          refine x_iconst hP dX6_readValue_58 (v := 1) rfl ?_
          refine x_iadd hP dX6_readValue_59 ?_
          refine x_iload_n hP dX6_readValue_60 rfl ?_
          obtain ⟨M16, hc15, hf⟩ := b_bd hf
          refine y_cvv hP oX6_readValue lX6_148 [.int (l1 + (1 : Int32)), .int l2] [] rfl rfl rfl lay23 dX6_readValue_61 (hrec_X6_readValue hc15) (by omega) ?_
          refine x_aload_n hP dX6_readValue_64 rfl ?_
          obtain ⟨t17, ht17, hrt17, hf⟩ := b_rT hf
          refine x_getM hP fX6_26 lay23 hrt17 dX6_readValue_65 ?_
          refine x_iload hP dX6_readValue_68 rfl ?_
          refine x_iconst hP dX6_readValue_70 (v := 0) rfl ?_
          obtain ⟨M19, hc18, hf⟩ := b_bd hf
          refine y_cvv hP oX9_emit lX6_151 [.int v12, .int (0 : Int32)] [] rfl rfl rfl (layT ht17) dX6_readValue_71 (t_X9_emit (d := d - 1) (by omega) ht17 hc18) (by omega) ?_
          obtain ⟨v20, hv20, hf⟩ := b_lt hf
          refine x_iinc hP (v := v20) (ls2 := [some (.ref 23), some (.int l1), some (.int l2), some (.int v20), some (.int v12)]) dX6_readValue_74 rfl (by rw [hv20]; rfl) rfl rfl ?_
          refine x_goto hP dX6_readValue_77 (tgt := 21) (by decide) ?_
          refine x_drop hP [some (.ref 23), some (.int l1), some (.int l2), some (.int v20), none] (And.intro rfl (And.intro rfl (And.intro rfl (And.intro rfl trivial)))) ?_
          exact ih _ _ _ _ _ hf hx
set_option maxHeartbeats 1000000 in
set_option maxRecDepth 20000 in
theorem tg_X6_readValue {g : GG} {d : Nat} {rv : Int32 → Int32 → Mem → Option (Mem)} {ru : Int32 → Mem → Option (Mem)} (hd : 6 ≤ d) (hrec_X6_readValue : ∀ {x1 : Int32} {x2 : Int32} {M : Mem} {M' : Mem}, rv x1 x2 M = some M' → ExM g (d - 1) iX6_readValue [.ref 23, .int x1, .int x2] LAY M (none, LAY, M')) (hrec_X6_readUnit : ∀ {x1 : Int32} {M : Mem} {M' : Mem}, ru x1 M = some M' → ExM g (d - 1) iX6_readUnit [.ref 23, .int x1] LAY M (none, LAY, M')) {x1 : Int32} {x2 : Int32} {M : Mem} {M' : Mem} (hf : g_X6_readValue rv ru x1 x2 M = some M') : ExM g d iX6_readValue [.ref 23, .int x1, .int x2] LAY M (none, LAY, M') := by
  have hd1 : 1 ≤ d := by omega
  refine ExM.main pnX6 rfl (ls := [some (.ref 23), some (.int x1), some (.int x2), none, none]) rfl ?_
  intro P hP
  rw [g_X6_readValue] at hf
  refine x_iload_n hP dX6_readValue_0 rfl ?_
  refine x_iconst hP dX6_readValue_1 (v := 2) rfl ?_
  refine x_icmp_lt hP dX6_readValue_2 (tgt := 11) (by decide) (fun c1 => ?_) (fun c1 => ?_)
  · replace hf := p_t c1 hf
    refine x_aload_n hP dX6_readValue_11 rfl ?_
    refine x_iload_n hP dX6_readValue_12 rfl ?_
    refine x_iconst hP dX6_readValue_13 (v := 1) rfl ?_
    refine x_iadd hP dX6_readValue_14 ?_
    refine x_iload_n hP dX6_readValue_15 rfl ?_
    obtain ⟨M3, hc2, hf⟩ := b_bd hf
    refine y_cvv hP oX6_readValue lX6_148 [.int (x1 + (1 : Int32)), .int x2] [] rfl rfl rfl lay23 dX6_readValue_16 (hrec_X6_readValue hc2) (by omega) ?_
    refine x_iconst hP dX6_readValue_19 (v := 0) rfl ?_
    refine x_istore_n hP (ls2 := [some (.ref 23), some (.int x1), some (.int x2), some (.int (0 : Int32)), none]) dX6_readValue_20 rfl rfl rfl ?_
    refine x_drop hP [some (.ref 23), some (.int x1), some (.int x2), some (.int (0 : Int32)), none] (And.intro rfl (And.intro rfl (And.intro rfl (And.intro rfl trivial)))) ?_
    obtain ⟨t21, hl22, hf⟩ := b_bd hf
    refine t_X6_readValue_L21 hd hrec_X6_readValue hrec_X6_readUnit hP _ _ _ _ _ _ hl22 ?_
    cases hf
    exact x_vret hP rfl dX6_readValue_80
  · replace hf := p_f c1 hf
    refine x_aload_n hP dX6_readValue_5 rfl ?_
    refine x_iload_n hP dX6_readValue_6 rfl ?_
    obtain ⟨M24, hc23, hf⟩ := b_bd hf
    refine y_cvv hP oX6_readUnit lX6_157 [.int x2] [] rfl rfl rfl lay23 dX6_readValue_7 (hrec_X6_readUnit hc23) (by omega) ?_
    cases hf
    exact x_vret hP rfl dX6_readValue_10
def n_X6_rv : Nat → (Int32 → Int32 → Mem → Option (Mem)) × (Int32 → Mem → Option (Mem))
  | 0 => (fun _ _ _ => none, fun _ _ => none)
  | n + 1 => (fun x1 x2 M => g_X6_readValue (n_X6_rv n).1 (n_X6_rv n).2 x1 x2 M, fun x1 M => g_X6_readUnit (n_X6_rv n).1 (n_X6_rv n).2 x1 M)
def f_X6_readValue (x1 x2 : Int32) (M : Mem) : Option (Mem) := (n_X6_rv 40).1 x1 x2 M
def f_X6_readUnit (x1 : Int32) (M : Mem) : Option (Mem) := (n_X6_rv 40).2 x1 M
theorem tn_X6_rv {g : GG} : ∀ (n d : Nat), n + 6 ≤ d → (∀ {x1 x2 : Int32} {M : Mem} {M' : Mem}, (n_X6_rv n).1 x1 x2 M = some M' → ExM g d iX6_readValue [.ref 23, .int x1, .int x2] LAY M (none, LAY, M')) ∧ (∀ {x1 : Int32} {M : Mem} {M' : Mem}, (n_X6_rv n).2 x1 M = some M' → ExM g d iX6_readUnit [.ref 23, .int x1] LAY M (none, LAY, M'))
  | 0, _, _ => ⟨fun {_ _ _ _} hf => by simp [n_X6_rv] at hf, fun {_ _ _} hf => by simp [n_X6_rv] at hf⟩
  | n + 1, d, hd => ⟨fun {_ _ _ _} hf => tg_X6_readValue (by omega) (fun h => (tn_X6_rv n (d - 1) (by omega)).1 h) (fun h => (tn_X6_rv n (d - 1) (by omega)).2 h) hf, fun {_ _ _} hf => tg_X6_readUnit (by omega) (fun h => (tn_X6_rv n (d - 1) (by omega)).1 h) (fun h => (tn_X6_rv n (d - 1) (by omega)).2 h) hf⟩
theorem t_X6_readValue {g : GG} {d : Nat} (hd : 46 ≤ d) {x1 x2 : Int32} {M : Mem} {M' : Mem} (hf : f_X6_readValue x1 x2 M = some M') : ExM g d iX6_readValue [.ref 23, .int x1, .int x2] LAY M (none, LAY, M') := (tn_X6_rv 40 d hd).1 hf
theorem t_X6_readUnit {g : GG} {d : Nat} (hd : 46 ≤ d) {x1 : Int32} {M : Mem} {M' : Mem} (hf : f_X6_readUnit x1 M = some M') : ExM g d iX6_readUnit [.ref 23, .int x1] LAY M (none, LAY, M') := (tn_X6_rv 40 d hd).2 hf
def f_X6_readLaw_L43 : Nat → Int32 → Mem → Option (Mem)
  | 0, _, _ => none
  | fu + 1, l2, M =>
    if (4 : Int32) < l2 then
      some M
    else
      if M.1 23 7 = 0 then
        (f_X6_kind M).bind fun v15 =>
        if v15 = (139 : Int32) then
          (
            if l2 = (4 : Int32) then
              (f_X6_fail (2 : Int32) M).bind fun M20 =>
              some M20
            else
              some M
          ).bind fun t17 =>
          (f_X6_pass t17).bind fun M22 =>
          (f_X6_readValue (0 : Int32) (0 : Int32) M22).bind fun M24 =>
          (f_X6_expect (60 : Int32) M24).bind fun M26 =>
          (f_X6_readValue (0 : Int32) (0 : Int32) M26).bind fun M28 =>
          (f_X6_expect (140 : Int32) M28).bind fun M30 =>
          (rT M30 23 5).bind fun t31 =>
          lt (M30.1 t31 9 : Int32) fun v32 =>
          (rT M30 23 5).bind fun t33 =>
          (f_X9_emit t33 (2 : Int32) (0 : Int32) M30).bind fun M35 =>
          (f_X6_readValue (0 : Int32) (0 : Int32) M35).bind fun M37 =>
          (f_X6_expect (141 : Int32) M37).bind fun M39 =>
          (rT M39 23 5).bind fun t40 =>
          (f_X9_emit t40 (3 : Int32) (0 : Int32) M39).bind fun M42 =>
          (rT M42 23 5).bind fun t43 =>
          (f_X9_aimAtEnd t43 v32 M42).bind fun M45 =>
          lt (l2 + 1 : Int32) fun v46 =>
          f_X6_readLaw_L43 fu v46 M45
        else
          some M
      else
        some M
def f_X6_readLaw (x1 : Int32) (M : Mem) : Option (Mem) :=
  if x1 < 0 then
    (f_X6_fail (1 : Int32) M).bind fun M3 =>
    some M3
  else
    if x1 < (4 : Int32) then
      (f_X6_pass M).bind fun M6 =>
      (f_X6_expect (61 : Int32) M6).bind fun M8 =>
      (rT M8 23 5).bind fun t9 =>
      (rT M8 23 5).bind fun t10 =>
      (pg M8 (t9 + 8) 4 x1 (M8.1 t10 9)).bind fun M11 =>
      (f_X6_readLaw_L43 FU (0 : Int32) M11).bind fun t47 =>
      (f_X6_readValue (0 : Int32) (0 : Int32) t47).bind fun M50 =>
      (rT M50 23 5).bind fun t51 =>
      (f_X9_emit t51 (3 : Int32) (0 : Int32) M50).bind fun M53 =>
      some M53
    else
      (f_X6_fail (1 : Int32) M).bind fun M55 =>
      some M55
set_option maxHeartbeats 1000000 in
set_option maxRecDepth 20000 in
theorem t_X6_readLaw_L43 {g : GG} {d : Nat} {P : PT} {res : Option RS} (hd : 47 ≤ d)  (hP : IsM g iX6_readLaw d res P) : ∀ (fu : Nat) (l2 : Int32) (M : Mem) (t : Mem), f_X6_readLaw_L43 fu l2 M = some t → P 157 [some (.ref 23), none, none, none] [] LAY t → P 43 [some (.ref 23), none, some (.int l2), none] [] LAY M := by
  have hd1 : 1 ≤ d := by omega
  intro fu
  induction fu with
  | zero => intro l2 M t hf; simp [f_X6_readLaw_L43] at hf
  | succ fu ih =>
    intro l2 M t hf hx
    rw [f_X6_readLaw_L43] at hf
    refine x_iload_n hP dX6_readLaw_43 rfl ?_
    refine x_iconst hP dX6_readLaw_44 (v := 4) rfl ?_
    refine x_icmp_gt hP dX6_readLaw_45 (tgt := 157) (by decide) (fun c12 => ?_) (fun c12 => ?_)
    · replace hf := p_t c12 hf
      refine x_drop hP [some (.ref 23), none, none, none] (And.intro rfl trivial) ?_
      cases hf
      exact hx
    · replace hf := p_f c12 hf
      refine x_aload_n hP dX6_readLaw_48 rfl ?_
      refine x_getI hP fX6_34 lay23 dX6_readLaw_49 ?_
      refine x_if_ne hP dX6_readLaw_52 (tgt := 157) (by decide) (fun c13 => ?_) (fun c13 => ?_)
      · replace hf := p_f c13 hf
        refine x_drop hP [some (.ref 23), none, none, none] (And.intro rfl trivial) ?_
        cases hf
        exact hx
      · replace hf := p_t c13 hf
        refine x_aload_n hP dX6_readLaw_55 rfl ?_
        obtain ⟨v15, hc14, hf⟩ := b_bd hf
        refine y_cvi hP oX6_kind lX6_38 [] [] rfl rfl rfl lay23 dX6_readLaw_56 (t_X6_kind (d := d - 1) (by omega) hc14) (by omega) ?_
        refine x_sipush hP dX6_readLaw_59 (v := 139) rfl ?_
        refine x_icmp_ne hP dX6_readLaw_62 (tgt := 157) (by decide) (fun c16 => ?_) (fun c16 => ?_)
        · replace hf := p_f c16 hf
          refine x_drop hP [some (.ref 23), none, none, none] (And.intro rfl trivial) ?_
          cases hf
          exact hx
        · replace hf := p_t c16 hf
          refine x_iload_n hP dX6_readLaw_65 rfl ?_
          refine x_iconst hP dX6_readLaw_66 (v := 4) rfl ?_
          obtain ⟨t17, het17, hf⟩ := b_bd hf
          have hj17 : P 75 [some (.ref 23), none, some (.int l2), none] [] LAY t17 := by
            refine x_aload_n hP dX6_readLaw_75 rfl ?_
            obtain ⟨M22, hc21, hf⟩ := b_bd hf
            refine y_cvv hP oX6_pass lX6_54 [] [] rfl rfl rfl lay23 dX6_readLaw_76 (t_X6_pass (d := d - 1) (by omega) hc21) (by omega) ?_
            refine x_aload_n hP dX6_readLaw_79 rfl ?_
            refine x_iconst hP dX6_readLaw_80 (v := 0) rfl ?_
            refine x_iconst hP dX6_readLaw_81 (v := 0) rfl ?_
            obtain ⟨M24, hc23, hf⟩ := b_bd hf
            refine y_cvv hP oX6_readValue lX6_148 [.int (0 : Int32), .int (0 : Int32)] [] rfl rfl rfl lay23 dX6_readLaw_82 (t_X6_readValue (d := d - 1) (by omega) hc23) (by omega) ?_
            refine x_aload_n hP dX6_readLaw_85 rfl ?_
            refine x_bipush hP dX6_readLaw_86 (v := 60) rfl ?_
            obtain ⟨M26, hc25, hf⟩ := b_bd hf
            refine y_cvv hP oX6_expect lX6_79 [.int (60 : Int32)] [] rfl rfl rfl lay23 dX6_readLaw_88 (t_X6_expect (d := d - 1) (by omega) hc25) (by omega) ?_
            refine x_aload_n hP dX6_readLaw_91 rfl ?_
            refine x_iconst hP dX6_readLaw_92 (v := 0) rfl ?_
            refine x_iconst hP dX6_readLaw_93 (v := 0) rfl ?_
            obtain ⟨M28, hc27, hf⟩ := b_bd hf
            refine y_cvv hP oX6_readValue lX6_148 [.int (0 : Int32), .int (0 : Int32)] [] rfl rfl rfl lay23 dX6_readLaw_94 (t_X6_readValue (d := d - 1) (by omega) hc27) (by omega) ?_
            refine x_aload_n hP dX6_readLaw_97 rfl ?_
            refine x_sipush hP dX6_readLaw_98 (v := 140) rfl ?_
            obtain ⟨M30, hc29, hf⟩ := b_bd hf
            refine y_cvv hP oX6_expect lX6_79 [.int (140 : Int32)] [] rfl rfl rfl lay23 dX6_readLaw_101 (t_X6_expect (d := d - 1) (by omega) hc29) (by omega) ?_
            refine x_aload_n hP dX6_readLaw_104 rfl ?_
            obtain ⟨t31, ht31, hrt31, hf⟩ := b_rT hf
            refine x_getM hP fX6_26 lay23 hrt31 dX6_readLaw_105 ?_
            refine x_getI hP fX6_145 (layT ht31) dX6_readLaw_108 ?_
            obtain ⟨v32, hv32, hf⟩ := b_lt hf
            refine y_nmI hv32 ?_
            refine x_istore_n hP (ls2 := [some (.ref 23), none, some (.int l2), some (.int v32)]) dX6_readLaw_111 rfl rfl rfl ?_
            refine x_aload_n hP dX6_readLaw_112 rfl ?_
            obtain ⟨t33, ht33, hrt33, hf⟩ := b_rT hf
            refine x_getM hP fX6_26 lay23 hrt33 dX6_readLaw_113 ?_
            refine x_iconst hP dX6_readLaw_116 (v := 2) rfl ?_
            refine x_iconst hP dX6_readLaw_117 (v := 0) rfl ?_
            obtain ⟨M35, hc34, hf⟩ := b_bd hf
            refine y_cvv hP oX9_emit lX6_151 [.int (2 : Int32), .int (0 : Int32)] [] rfl rfl rfl (layT ht33) dX6_readLaw_118 (t_X9_emit (d := d - 1) (by omega) ht33 hc34) (by omega) ?_
            refine x_aload_n hP dX6_readLaw_121 rfl ?_
            refine x_iconst hP dX6_readLaw_122 (v := 0) rfl ?_
            refine x_iconst hP dX6_readLaw_123 (v := 0) rfl ?_
            obtain ⟨M37, hc36, hf⟩ := b_bd hf
            refine y_cvv hP oX6_readValue lX6_148 [.int (0 : Int32), .int (0 : Int32)] [] rfl rfl rfl lay23 dX6_readLaw_124 (t_X6_readValue (d := d - 1) (by omega) hc36) (by omega) ?_
            refine x_aload_n hP dX6_readLaw_127 rfl ?_
            refine x_sipush hP dX6_readLaw_128 (v := 141) rfl ?_
            obtain ⟨M39, hc38, hf⟩ := b_bd hf
            refine y_cvv hP oX6_expect lX6_79 [.int (141 : Int32)] [] rfl rfl rfl lay23 dX6_readLaw_131 (t_X6_expect (d := d - 1) (by omega) hc38) (by omega) ?_
            refine x_aload_n hP dX6_readLaw_134 rfl ?_
            obtain ⟨t40, ht40, hrt40, hf⟩ := b_rT hf
            refine x_getM hP fX6_26 lay23 hrt40 dX6_readLaw_135 ?_
            refine x_iconst hP dX6_readLaw_138 (v := 3) rfl ?_
            refine x_iconst hP dX6_readLaw_139 (v := 0) rfl ?_
            obtain ⟨M42, hc41, hf⟩ := b_bd hf
            refine y_cvv hP oX9_emit lX6_151 [.int (3 : Int32), .int (0 : Int32)] [] rfl rfl rfl (layT ht40) dX6_readLaw_140 (t_X9_emit (d := d - 1) (by omega) ht40 hc41) (by omega) ?_
            refine x_aload_n hP dX6_readLaw_143 rfl ?_
            obtain ⟨t43, ht43, hrt43, hf⟩ := b_rT hf
            refine x_getM hP fX6_26 lay23 hrt43 dX6_readLaw_144 ?_
            refine x_iload_n hP dX6_readLaw_147 rfl ?_
            obtain ⟨M45, hc44, hf⟩ := b_bd hf
            refine y_cvv hP oX9_aimAtEnd lX6_154 [.int v32] [] rfl rfl rfl (layT ht43) dX6_readLaw_148 (t_X9_aimAtEnd (d := d - 1) (by omega) ht43 hc44) (by omega) ?_
            obtain ⟨v46, hv46, hf⟩ := b_lt hf
            refine x_iinc hP (v := v46) (ls2 := [some (.ref 23), none, some (.int v46), some (.int v32)]) dX6_readLaw_151 rfl (by rw [hv46]; rfl) rfl rfl ?_
            refine x_goto hP dX6_readLaw_154 (tgt := 43) (by decide) ?_
            refine x_drop hP [some (.ref 23), none, some (.int v46), none] (And.intro rfl (And.intro rfl trivial)) ?_
            exact ih _ _ _ hf hx
          clear hf
          have hf := het17
          clear het17
          refine x_icmp_ne hP dX6_readLaw_67 (tgt := 75) (by decide) (fun c18 => ?_) (fun c18 => ?_)
          · replace hf := p_f c18 hf
            refine x_drop hP [some (.ref 23), none, some (.int l2), none] (And.intro rfl (And.intro rfl trivial)) ?_
            cases hf
            exact hj17
          · replace hf := p_t c18 hf
            refine x_aload_n hP dX6_readLaw_70 rfl ?_
            refine x_iconst hP dX6_readLaw_71 (v := 2) rfl ?_
            obtain ⟨M20, hc19, hf⟩ := b_bd hf
            refine y_cvv hP oX6_fail lX6_139 [.int (2 : Int32)] [] rfl rfl rfl lay23 dX6_readLaw_72 (t_X6_fail (d := d - 1) (by omega) hc19) (by omega) ?_
            refine x_drop hP [some (.ref 23), none, some (.int l2), none] (And.intro rfl (And.intro rfl trivial)) ?_
            cases hf
            exact hj17
set_option maxHeartbeats 1000000 in
set_option maxRecDepth 20000 in
theorem t_X6_readLaw {g : GG} {d : Nat} (hd : 47 ≤ d) {x1 : Int32} {M : Mem} {M' : Mem} (hf : f_X6_readLaw x1 M = some M') : ExM g d iX6_readLaw [.ref 23, .int x1] LAY M (none, LAY, M') := by
  have hd1 : 1 ≤ d := by omega
  refine ExM.main pnX6 rfl (ls := [some (.ref 23), some (.int x1), none, none]) rfl ?_
  intro P hP
  rw [f_X6_readLaw] at hf
  refine x_iload_n hP dX6_readLaw_0 rfl ?_
  refine x_if_lt hP dX6_readLaw_1 (tgt := 9) (by decide) (fun c1 => ?_) (fun c1 => ?_)
  · replace hf := p_t c1 hf
    refine x_aload_n hP dX6_readLaw_9 rfl ?_
    refine x_iconst hP dX6_readLaw_10 (v := 1) rfl ?_
    obtain ⟨M3, hc2, hf⟩ := b_bd hf
    refine y_cvv hP oX6_fail lX6_139 [.int (1 : Int32)] [] rfl rfl rfl lay23 dX6_readLaw_11 (t_X6_fail (d := d - 1) (by omega) hc2) (by omega) ?_
    cases hf
    exact x_vret hP rfl dX6_readLaw_14
  · replace hf := p_f c1 hf
    refine x_iload_n hP dX6_readLaw_4 rfl ?_
    refine x_iconst hP dX6_readLaw_5 (v := 4) rfl ?_
    refine x_icmp_lt hP dX6_readLaw_6 (tgt := 15) (by decide) (fun c4 => ?_) (fun c4 => ?_)
    · replace hf := p_t c4 hf
      refine x_aload_n hP dX6_readLaw_15 rfl ?_
      obtain ⟨M6, hc5, hf⟩ := b_bd hf
      refine y_cvv hP oX6_pass lX6_54 [] [] rfl rfl rfl lay23 dX6_readLaw_16 (t_X6_pass (d := d - 1) (by omega) hc5) (by omega) ?_
      refine x_aload_n hP dX6_readLaw_19 rfl ?_
      refine x_bipush hP dX6_readLaw_20 (v := 61) rfl ?_
      obtain ⟨M8, hc7, hf⟩ := b_bd hf
      refine y_cvv hP oX6_expect lX6_79 [.int (61 : Int32)] [] rfl rfl rfl lay23 dX6_readLaw_22 (t_X6_expect (d := d - 1) (by omega) hc7) (by omega) ?_
      refine x_aload_n hP dX6_readLaw_25 rfl ?_
      obtain ⟨t9, ht9, hrt9, hf⟩ := b_rT hf
      refine x_getM hP fX6_26 lay23 hrt9 dX6_readLaw_26 ?_
      refine x_getA hP fX6_142 (layT ht9) (r := t9 + 8) rfl dX6_readLaw_29 ?_
      refine x_iload_n hP dX6_readLaw_32 rfl ?_
      refine x_aload_n hP dX6_readLaw_33 rfl ?_
      obtain ⟨t10, ht10, hrt10, hf⟩ := b_rT hf
      refine x_getM hP fX6_26 lay23 hrt10 dX6_readLaw_34 ?_
      refine x_getI hP fX6_145 (layT ht10) dX6_readLaw_37 ?_
      obtain ⟨M11, hiM11, hM11, hf⟩ := b_pg hf
      refine y_ast hP (layT_8 ht9) hiM11 hM11 dX6_readLaw_40 ?_
      refine x_iconst hP dX6_readLaw_41 (v := 0) rfl ?_
      refine x_istore_n hP (ls2 := [some (.ref 23), some (.int x1), some (.int (0 : Int32)), none]) dX6_readLaw_42 rfl rfl rfl ?_
      refine x_drop hP [some (.ref 23), none, some (.int (0 : Int32)), none] (And.intro rfl (And.intro rfl trivial)) ?_
      obtain ⟨t47, hl48, hf⟩ := b_bd hf
      refine t_X6_readLaw_L43 hd hP _ _ _ _ hl48 ?_
      refine x_aload_n hP dX6_readLaw_157 rfl ?_
      refine x_iconst hP dX6_readLaw_158 (v := 0) rfl ?_
      refine x_iconst hP dX6_readLaw_159 (v := 0) rfl ?_
      obtain ⟨M50, hc49, hf⟩ := b_bd hf
      refine y_cvv hP oX6_readValue lX6_148 [.int (0 : Int32), .int (0 : Int32)] [] rfl rfl rfl lay23 dX6_readLaw_160 (t_X6_readValue (d := d - 1) (by omega) hc49) (by omega) ?_
      refine x_aload_n hP dX6_readLaw_163 rfl ?_
      obtain ⟨t51, ht51, hrt51, hf⟩ := b_rT hf
      refine x_getM hP fX6_26 lay23 hrt51 dX6_readLaw_164 ?_
      refine x_iconst hP dX6_readLaw_167 (v := 3) rfl ?_
      refine x_iconst hP dX6_readLaw_168 (v := 0) rfl ?_
      obtain ⟨M53, hc52, hf⟩ := b_bd hf
      refine y_cvv hP oX9_emit lX6_151 [.int (3 : Int32), .int (0 : Int32)] [] rfl rfl rfl (layT ht51) dX6_readLaw_169 (t_X9_emit (d := d - 1) (by omega) ht51 hc52) (by omega) ?_
      cases hf
      exact x_vret hP rfl dX6_readLaw_172
    · replace hf := p_f c4 hf
      refine x_aload_n hP dX6_readLaw_9 rfl ?_
      refine x_iconst hP dX6_readLaw_10 (v := 1) rfl ?_
      obtain ⟨M55, hc54, hf⟩ := b_bd hf
      refine y_cvv hP oX6_fail lX6_139 [.int (1 : Int32)] [] rfl rfl rfl lay23 dX6_readLaw_11 (t_X6_fail (d := d - 1) (by omega) hc54) (by omega) ?_
      cases hf
      exact x_vret hP rfl dX6_readLaw_14
def f_X6_readInto_L8 (t2 : Nat) : Nat → Int32 → Mem → Option (Mem)
  | 0, _, _ => none
  | fu + 1, l3, M =>
    if (401 : Int32) ≤ l3 then
      some M
    else
      if M.1 23 7 = 0 then
        (f_X6_kind M).bind fun v6 =>
        if v6 = 0 then
          some M
        else
          (f_X6_kind M).bind fun v9 =>
          (
            if v9 = 128 then
              (f_X6_readCorner M).bind fun M13 =>
              some M13
            else
            if v9 = 129 then
              (f_X6_readStreet M).bind fun M16 =>
              some M16
            else
            if v9 = 130 then
              (f_X6_readYoung M).bind fun M19 =>
              some M19
            else
            if v9 = 131 then
              (f_X6_readWord M).bind fun M22 =>
              some M22
            else
            if v9 = 132 then
              (f_X6_pass M).bind fun M25 =>
              (rT M25 23 5).bind fun t26 =>
              (f_X6_takeCorner M25).bind fun t28 =>
              lt (sI t28.2 t26 14 t28.1) fun M29 =>
              some M29
            else
            if v9 = 137 then
              (f_X6_pass M).bind fun M32 =>
              (rT M32 23 5).bind fun t33 =>
              (f_X6_takeInt (0 : Int32) (100 : Int32) M32).bind fun t35 =>
              lt (sI t35.2 t33 15 t35.1) fun M36 =>
              some M36
            else
            if v9 = 138 then
              (f_X6_pass M).bind fun M39 =>
              (rT M39 23 5).bind fun t40 =>
              (f_X6_takeInt (0 : Int32) (9999 : Int32) M39).bind fun t42 =>
              lt (sI t42.2 t40 16 t42.1) fun M43 =>
              some M43
            else
            (f_X6_readLaw (v9 - (133 : Int32)) M).bind fun M45 =>
            some M45
          ).bind fun t10 =>
          (f_X6_expect (59 : Int32) t10).bind fun M47 =>
          lt (l3 + 1 : Int32) fun v48 =>
          f_X6_readInto_L8 t2 fu v48 M47
      else
        some M
def f_X6_readInto (t2 : Nat) (M : Mem) : Option (Int32 × Mem) :=
  (f_X6_start t2 M).bind fun M2 =>
  (f_X6_readInto_L8 t2 FU (0 : Int32) M2).bind fun t49 =>
  if t49.1 23 7 = 0 then
    lt (sI t49 23 7 (t49.1 23 8)) fun M52 =>
    lt (sI M52 23 0 (M52.1 23 9)) fun M53 =>
    some (M53.1 23 7, M53)
  else
    some (t49.1 23 7, t49)
set_option maxHeartbeats 1000000 in
set_option maxRecDepth 20000 in
theorem t_X6_readInto_L8 {g : GG} {d : Nat} {P : PT} {res : Option RS} (hd : 48 ≤ d) {t2 : Nat} (ht2 : isT t2) (hP : IsM g iX6_readInto d res P) : ∀ (fu : Nat) (l3 : Int32) (M : Mem) (t : Mem), f_X6_readInto_L8 t2 fu l3 M = some t → P 207 [some (.ref 23), none, none, none, none] [] LAY t → P 8 [some (.ref 23), none, none, some (.int l3), none] [] LAY M := by
  have hd1 : 1 ≤ d := by omega
  intro fu
  induction fu with
  | zero => intro l3 M t hf; simp [f_X6_readInto_L8] at hf
  | succ fu ih =>
    intro l3 M t hf hx
    rw [f_X6_readInto_L8] at hf
    refine x_iload_n hP dX6_readInto_8 rfl ?_
    refine x_sipush hP dX6_readInto_9 (v := 401) rfl ?_
    refine x_icmp_ge hP dX6_readInto_12 (tgt := 207) (by decide) (fun c3 => ?_) (fun c3 => ?_)
    · replace hf := p_t c3 hf
      refine x_drop hP [some (.ref 23), none, none, none, none] (And.intro rfl trivial) ?_
      cases hf
      exact hx
    · replace hf := p_f c3 hf
      refine x_aload_n hP dX6_readInto_15 rfl ?_
      refine x_getI hP fX6_34 lay23 dX6_readInto_16 ?_
      refine x_if_ne hP dX6_readInto_19 (tgt := 207) (by decide) (fun c4 => ?_) (fun c4 => ?_)
      · replace hf := p_f c4 hf
        refine x_drop hP [some (.ref 23), none, none, none, none] (And.intro rfl trivial) ?_
        cases hf
        exact hx
      · replace hf := p_t c4 hf
        refine x_aload_n hP dX6_readInto_22 rfl ?_
        obtain ⟨v6, hc5, hf⟩ := b_bd hf
        refine y_cvi hP oX6_kind lX6_38 [] [] rfl rfl rfl lay23 dX6_readInto_23 (t_X6_kind (d := d - 1) (by omega) hc5) (by omega) ?_
        refine x_if_eq hP dX6_readInto_26 (tgt := 207) (by decide) (fun c7 => ?_) (fun c7 => ?_)
        · replace hf := p_t c7 hf
          refine x_drop hP [some (.ref 23), none, none, none, none] (And.intro rfl trivial) ?_
          cases hf
          exact hx
        · replace hf := p_f c7 hf
          refine x_aload_n hP dX6_readInto_29 rfl ?_
          obtain ⟨v9, hc8, hf⟩ := b_bd hf
          refine y_cvi hP oX6_kind lX6_38 [] [] rfl rfl rfl lay23 dX6_readInto_30 (t_X6_kind (d := d - 1) (by omega) hc8) (by omega) ?_
          refine x_istore hP (ls2 := [some (.ref 23), none, none, some (.int l3), some (.int v9)]) dX6_readInto_33 rfl rfl ?_
          refine x_iload hP dX6_readInto_35 rfl ?_
          obtain ⟨t10, het10, hf⟩ := b_bd hf
          have hj10 : P 195 [some (.ref 23), none, none, some (.int l3), none] [] LAY t10 := by
            refine x_aload_n hP dX6_readInto_195 rfl ?_
            refine x_bipush hP dX6_readInto_196 (v := 59) rfl ?_
            obtain ⟨M47, hc46, hf⟩ := b_bd hf
            refine y_cvv hP oX6_expect lX6_79 [.int (59 : Int32)] [] rfl rfl rfl lay23 dX6_readInto_198 (t_X6_expect (d := d - 1) (by omega) hc46) (by omega) ?_
            obtain ⟨v48, hv48, hf⟩ := b_lt hf
            refine x_iinc hP (v := v48) (ls2 := [some (.ref 23), none, none, some (.int v48), none]) dX6_readInto_201 rfl (by rw [hv48]; rfl) rfl rfl ?_
            refine x_goto hP dX6_readInto_204 (tgt := 8) (by decide) ?_
            refine x_drop hP [some (.ref 23), none, none, some (.int v48), none] (And.intro rfl (And.intro rfl trivial)) ?_
            exact ih _ _ _ hf hx
          clear hf
          have hf := het10
          clear het10
          by_cases c11 : v9 = 128
          · refine x_tswE hP dX6_readInto_37 c11 (by decide) (by decide) (off := 59) rfl (tgt := 96) (by decide) ?_
            replace hf := p_t c11 hf
            refine x_aload_n hP dX6_readInto_96 rfl ?_
            obtain ⟨M13, hc12, hf⟩ := b_bd hf
            refine y_cvv hP oX6_readCorner lX6_42 [] [] rfl rfl rfl lay23 dX6_readInto_97 (t_X6_readCorner (d := d - 1) (by omega) hc12) (by omega) ?_
            refine x_goto hP dX6_readInto_100 (tgt := 195) (by decide) ?_
            refine x_drop hP [some (.ref 23), none, none, some (.int l3), none] (And.intro rfl (And.intro rfl trivial)) ?_
            cases hf
            exact hj10
          replace hf := p_f c11 hf
          by_cases c14 : v9 = 129
          · refine x_tswE hP dX6_readInto_37 c14 (by decide) (by decide) (off := 66) rfl (tgt := 103) (by decide) ?_
            replace hf := p_t c14 hf
            refine x_aload_n hP dX6_readInto_103 rfl ?_
            obtain ⟨M16, hc15, hf⟩ := b_bd hf
            refine y_cvv hP oX6_readStreet lX6_45 [] [] rfl rfl rfl lay23 dX6_readInto_104 (t_X6_readStreet (d := d - 1) (by omega) hc15) (by omega) ?_
            refine x_goto hP dX6_readInto_107 (tgt := 195) (by decide) ?_
            refine x_drop hP [some (.ref 23), none, none, some (.int l3), none] (And.intro rfl (And.intro rfl trivial)) ?_
            cases hf
            exact hj10
          replace hf := p_f c14 hf
          by_cases c17 : v9 = 130
          · refine x_tswE hP dX6_readInto_37 c17 (by decide) (by decide) (off := 73) rfl (tgt := 110) (by decide) ?_
            replace hf := p_t c17 hf
            refine x_aload_n hP dX6_readInto_110 rfl ?_
            obtain ⟨M19, hc18, hf⟩ := b_bd hf
            refine y_cvv hP oX6_readYoung lX6_48 [] [] rfl rfl rfl lay23 dX6_readInto_111 (t_X6_readYoung (d := d - 1) (by omega) hc18) (by omega) ?_
            refine x_goto hP dX6_readInto_114 (tgt := 195) (by decide) ?_
            refine x_drop hP [some (.ref 23), none, none, some (.int l3), none] (And.intro rfl (And.intro rfl trivial)) ?_
            cases hf
            exact hj10
          replace hf := p_f c17 hf
          by_cases c20 : v9 = 131
          · refine x_tswE hP dX6_readInto_37 c20 (by decide) (by decide) (off := 80) rfl (tgt := 117) (by decide) ?_
            replace hf := p_t c20 hf
            refine x_aload_n hP dX6_readInto_117 rfl ?_
            obtain ⟨M22, hc21, hf⟩ := b_bd hf
            refine y_cvv hP oX6_readWord lX6_51 [] [] rfl rfl rfl lay23 dX6_readInto_118 (t_X6_readWord (d := d - 1) (by omega) hc21) (by omega) ?_
            refine x_goto hP dX6_readInto_121 (tgt := 195) (by decide) ?_
            refine x_drop hP [some (.ref 23), none, none, some (.int l3), none] (And.intro rfl (And.intro rfl trivial)) ?_
            cases hf
            exact hj10
          replace hf := p_f c20 hf
          by_cases c23 : v9 = 132
          · refine x_tswE hP dX6_readInto_37 c23 (by decide) (by decide) (off := 87) rfl (tgt := 124) (by decide) ?_
            replace hf := p_t c23 hf
            refine x_aload_n hP dX6_readInto_124 rfl ?_
            obtain ⟨M25, hc24, hf⟩ := b_bd hf
            refine y_cvv hP oX6_pass lX6_54 [] [] rfl rfl rfl lay23 dX6_readInto_125 (t_X6_pass (d := d - 1) (by omega) hc24) (by omega) ?_
            refine x_aload_n hP dX6_readInto_128 rfl ?_
            obtain ⟨t26, ht26, hrt26, hf⟩ := b_rT hf
            refine x_getM hP fX6_26 lay23 hrt26 dX6_readInto_129 ?_
            refine x_aload_n hP dX6_readInto_132 rfl ?_
            obtain ⟨t28, hc27, hf⟩ := b_bd hf
            refine y_cvi hP oX6_takeCorner lX6_57 [] [.ref t26] rfl rfl rfl lay23 dX6_readInto_133 (t_X6_takeCorner (d := d - 1) (by omega) hc27) (by omega) ?_
            obtain ⟨M29, hM29, hf⟩ := b_lt hf
            refine y_putI hP fX6_60 (layT ht26) hM29 dX6_readInto_136 ?_
            refine x_goto hP dX6_readInto_139 (tgt := 195) (by decide) ?_
            refine x_drop hP [some (.ref 23), none, none, some (.int l3), none] (And.intro rfl (And.intro rfl trivial)) ?_
            cases hf
            exact hj10
          replace hf := p_f c23 hf
          by_cases c30 : v9 = 137
          · refine x_tswE hP dX6_readInto_37 c30 (by decide) (by decide) (off := 105) rfl (tgt := 142) (by decide) ?_
            replace hf := p_t c30 hf
            refine x_aload_n hP dX6_readInto_142 rfl ?_
            obtain ⟨M32, hc31, hf⟩ := b_bd hf
            refine y_cvv hP oX6_pass lX6_54 [] [] rfl rfl rfl lay23 dX6_readInto_143 (t_X6_pass (d := d - 1) (by omega) hc31) (by omega) ?_
            refine x_aload_n hP dX6_readInto_146 rfl ?_
            obtain ⟨t33, ht33, hrt33, hf⟩ := b_rT hf
            refine x_getM hP fX6_26 lay23 hrt33 dX6_readInto_147 ?_
            refine x_aload_n hP dX6_readInto_150 rfl ?_
            refine x_iconst hP dX6_readInto_151 (v := 0) rfl ?_
            refine x_bipush hP dX6_readInto_152 (v := 100) rfl ?_
            obtain ⟨t35, hc34, hf⟩ := b_bd hf
            refine y_cvi hP oX6_takeInt lX6_65 [.int (0 : Int32), .int (100 : Int32)] [.ref t33] rfl rfl rfl lay23 dX6_readInto_154 (t_X6_takeInt (d := d - 1) (by omega) hc34) (by omega) ?_
            obtain ⟨M36, hM36, hf⟩ := b_lt hf
            refine y_putI hP fX6_69 (layT ht33) hM36 dX6_readInto_157 ?_
            refine x_goto hP dX6_readInto_160 (tgt := 195) (by decide) ?_
            refine x_drop hP [some (.ref 23), none, none, some (.int l3), none] (And.intro rfl (And.intro rfl trivial)) ?_
            cases hf
            exact hj10
          replace hf := p_f c30 hf
          by_cases c37 : v9 = 138
          · refine x_tswE hP dX6_readInto_37 c37 (by decide) (by decide) (off := 126) rfl (tgt := 163) (by decide) ?_
            replace hf := p_t c37 hf
            refine x_aload_n hP dX6_readInto_163 rfl ?_
            obtain ⟨M39, hc38, hf⟩ := b_bd hf
            refine y_cvv hP oX6_pass lX6_54 [] [] rfl rfl rfl lay23 dX6_readInto_164 (t_X6_pass (d := d - 1) (by omega) hc38) (by omega) ?_
            refine x_aload_n hP dX6_readInto_167 rfl ?_
            obtain ⟨t40, ht40, hrt40, hf⟩ := b_rT hf
            refine x_getM hP fX6_26 lay23 hrt40 dX6_readInto_168 ?_
            refine x_aload_n hP dX6_readInto_171 rfl ?_
            refine x_iconst hP dX6_readInto_172 (v := 0) rfl ?_
            refine x_sipush hP dX6_readInto_173 (v := 9999) rfl ?_
            obtain ⟨t42, hc41, hf⟩ := b_bd hf
            refine y_cvi hP oX6_takeInt lX6_65 [.int (0 : Int32), .int (9999 : Int32)] [.ref t40] rfl rfl rfl lay23 dX6_readInto_176 (t_X6_takeInt (d := d - 1) (by omega) hc41) (by omega) ?_
            obtain ⟨M43, hM43, hf⟩ := b_lt hf
            refine y_putI hP fX6_72 (layT ht40) hM43 dX6_readInto_179 ?_
            refine x_goto hP dX6_readInto_182 (tgt := 195) (by decide) ?_
            refine x_drop hP [some (.ref 23), none, none, some (.int l3), none] (And.intro rfl (And.intro rfl trivial)) ?_
            cases hf
            exact hj10
          replace hf := p_f c37 hf
          refine x_tswD hP dX6_readInto_37 [128, 129, 130, 131, 132, 137, 138] (And.intro (neI c11) (And.intro (neI c14) (And.intro (neI c17) (And.intro (neI c20) (And.intro (neI c23) (And.intro (neI c30) (And.intro (neI c37) trivial))))))) (by decide) (by decide) (tgt := 185) (by decide) ?_
          refine x_aload_n hP dX6_readInto_185 rfl ?_
          refine x_iload hP dX6_readInto_186 rfl ?_
          refine x_sipush hP dX6_readInto_188 (v := 133) rfl ?_
          refine x_isub hP dX6_readInto_191 ?_
          obtain ⟨M45, hc44, hf⟩ := b_bd hf
          refine y_cvv hP oX6_readLaw lX6_75 [.int (v9 - (133 : Int32))] [] rfl rfl rfl lay23 dX6_readInto_192 (t_X6_readLaw (d := d - 1) (by omega) hc44) (by omega) ?_
          refine x_drop hP [some (.ref 23), none, none, some (.int l3), none] (And.intro rfl (And.intro rfl trivial)) ?_
          cases hf
          exact hj10
set_option maxHeartbeats 1000000 in
set_option maxRecDepth 20000 in
theorem t_X6_readInto {g : GG} {d : Nat} (hd : 48 ≤ d) {t2 : Nat} (ht2 : isT t2) {M : Mem} {r : Int32} {M' : Mem} (hf : f_X6_readInto t2 M = some (r, M')) : ExM g d iX6_readInto [.ref 23, .ref 21, .ref t2] LAY M (some (.int r), LAY, M') := by
  have hd1 : 1 ≤ d := by omega
  refine ExM.main pnX6 rfl (ls := [some (.ref 23), some (.ref 21), some (.ref t2), none, none]) rfl ?_
  intro P hP
  rw [f_X6_readInto] at hf
  refine x_aload_n hP dX6_readInto_0 rfl ?_
  refine x_aload_n hP dX6_readInto_1 rfl ?_
  refine x_aload_n hP dX6_readInto_2 rfl ?_
  obtain ⟨M2, hc1, hf⟩ := b_bd hf
  refine y_cvv hP oX6_start lX6_30 [.ref 21, .ref t2] [] rfl rfl rfl lay23 dX6_readInto_3 (t_X6_start (d := d - 1) (by omega) ht2 hc1) (by omega) ?_
  refine x_iconst hP dX6_readInto_6 (v := 0) rfl ?_
  refine x_istore_n hP (ls2 := [some (.ref 23), some (.ref 21), some (.ref t2), some (.int (0 : Int32)), none]) dX6_readInto_7 rfl rfl rfl ?_
  refine x_drop hP [some (.ref 23), none, none, some (.int (0 : Int32)), none] (And.intro rfl (And.intro rfl trivial)) ?_
  obtain ⟨t49, hl50, hf⟩ := b_bd hf
  refine t_X6_readInto_L8 hd ht2 hP _ _ _ _ hl50 ?_
  refine x_aload_n hP dX6_readInto_207 rfl ?_
  refine x_getI hP fX6_34 lay23 dX6_readInto_208 ?_
  refine x_if_ne hP dX6_readInto_211 (tgt := 230) (by decide) (fun c51 => ?_) (fun c51 => ?_)
  · replace hf := p_f c51 hf
    refine x_aload_n hP dX6_readInto_230 rfl ?_
    refine x_getI hP fX6_34 lay23 dX6_readInto_231 ?_
    cases hf
    exact x_iret hP rfl dX6_readInto_234
  · replace hf := p_t c51 hf
    refine x_aload_n hP dX6_readInto_214 rfl ?_
    refine x_aload_n hP dX6_readInto_215 rfl ?_
    refine x_getI hP fX6_82 lay23 dX6_readInto_216 ?_
    obtain ⟨M52, hM52, hf⟩ := b_lt hf
    refine y_putI hP fX6_34 lay23 hM52 dX6_readInto_219 ?_
    refine x_aload_n hP dX6_readInto_222 rfl ?_
    refine x_aload_n hP dX6_readInto_223 rfl ?_
    refine x_getI hP fX6_85 lay23 dX6_readInto_224 ?_
    obtain ⟨M53, hM53, hf⟩ := b_lt hf
    refine y_putI hP fX6_88 lay23 hM53 dX6_readInto_227 ?_
    refine x_aload_n hP dX6_readInto_230 rfl ?_
    refine x_getI hP fX6_34 lay23 dX6_readInto_231 ?_
    cases hf
    exact x_iret hP rfl dX6_readInto_234

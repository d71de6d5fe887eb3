-- by program: wip/whole/gen/build_parts.py
def f_X3_isHome (n0 : Nat) (x1 : Int32) (M : Mem) : Option (Int32) :=
  if ((M.1 n0 3) >>> (x1 &&& 31)) &&& (1 : Int32) = (1 : Int32) then
    some (1 : Int32)
  else
    some (0 : Int32)
set_option maxHeartbeats 1000000 in
set_option maxRecDepth 20000 in
theorem t_X3_isHome {g : GG} {d : Nat} (hd : 1 ≤ d) {n0 : Nat} (hn0 : isN n0) {x1 : Int32} {M : Mem} {r : Int32} (hf : f_X3_isHome n0 x1 M = some r) : ExM g d iX3_isHome [.ref n0, .int x1] LAY M (some (.int r), LAY, M) := by
  have hd1 : 1 ≤ d := by omega
  refine ExM.main pnX3 rfl (ls := [some (.ref n0), some (.int x1)]) rfl ?_
  intro P hP
  rw [f_X3_isHome] at hf
  refine x_aload_n hP dX3_isHome_0 rfl ?_
  refine x_getI hP fX3_44 (layN hn0) dX3_isHome_1 ?_
  refine x_iload_n hP dX3_isHome_4 rfl ?_
  refine x_ishr hP dX3_isHome_5 ?_
  refine x_iconst hP dX3_isHome_6 (v := 1) rfl ?_
  refine x_iand hP dX3_isHome_7 ?_
  refine x_iconst hP dX3_isHome_8 (v := 1) rfl ?_
  refine x_icmp_ne hP dX3_isHome_9 (tgt := 16) (by decide) (fun c1 => ?_) (fun c1 => ?_)
  · replace hf := p_f c1 hf
    refine x_iconst hP dX3_isHome_16 (v := 0) rfl ?_
    cases hf
    exact x_zret hP rfl (Or.inl rfl) dX3_isHome_17
  · replace hf := p_t c1 hf
    refine x_iconst hP dX3_isHome_12 (v := 1) rfl ?_
    refine x_goto hP dX3_isHome_13 (tgt := 17) (by decide) ?_
    cases hf
    exact x_zret hP rfl (Or.inr rfl) dX3_isHome_17
def f_X3_since (n0 : Nat) (x1 : Int32) (M : Mem) : Option (Int32) :=
  (ag M (n0 + 4) 6 x1).bind fun v1 =>
  some ((M.1 n0 1) - v1)
set_option maxHeartbeats 1000000 in
set_option maxRecDepth 20000 in
theorem t_X3_since {g : GG} {d : Nat} (hd : 1 ≤ d) {n0 : Nat} (hn0 : isN n0) {x1 : Int32} {M : Mem} {r : Int32} (hf : f_X3_since n0 x1 M = some r) : ExM g d iX3_since [.ref n0, .int x1] LAY M (some (.int r), LAY, M) := by
  have hd1 : 1 ≤ d := by omega
  refine ExM.main pnX3 rfl (ls := [some (.ref n0), some (.int x1)]) rfl ?_
  intro P hP
  rw [f_X3_since] at hf
  refine x_aload_n hP dX3_since_0 rfl ?_
  refine x_getI hP fX3_34 (layN hn0) dX3_since_1 ?_
  refine x_aload_n hP dX3_since_4 rfl ?_
  refine x_getA hP fX3_21 (layN hn0) (r := n0 + 4) rfl dX3_since_5 ?_
  refine x_iload_n hP dX3_since_8 rfl ?_
  obtain ⟨v1, hiv1, hv1, hf⟩ := b_ag hf
  refine y_ald hP (layN_4 hn0) hiv1 hv1 dX3_since_9 ?_
  refine x_isub hP dX3_since_10 ?_
  cases hf
  exact x_iret hP rfl dX3_since_11
def f_X3_copyFrom (n0 : Nat) (n1 : Nat) (M : Mem) : Option (Mem) :=
  (rT M n1 0).bind fun t1 =>
  lt (sR M n0 0 (some t1)) fun M2 =>
  lt (sI M2 n0 1 (M2.1 n1 1)) fun M3 =>
  lt (sI M3 n0 2 (M3.1 n1 2)) fun M4 =>
  lt (sI M4 n0 3 (M4.1 n1 3)) fun M5 =>
  lt (sI M5 n0 4 (M5.1 n1 4)) fun M6 =>
  (cp M6 (n1 + 1) 6 (n0 + 1) 6 (0 : Int32) (0 : Int32) (6 : Int32)).bind fun M7 =>
  (cp M7 (n1 + 2) 6 (n0 + 2) 6 (0 : Int32) (0 : Int32) (6 : Int32)).bind fun M8 =>
  (cp M8 (n1 + 3) 6 (n0 + 3) 6 (0 : Int32) (0 : Int32) (6 : Int32)).bind fun M9 =>
  (cp M9 (n1 + 4) 6 (n0 + 4) 6 (0 : Int32) (0 : Int32) (6 : Int32)).bind fun M10 =>
  (cp M10 (n1 + 5) 5 (n0 + 5) 5 (0 : Int32) (0 : Int32) (5 : Int32)).bind fun M11 =>
  (cp M11 (n1 + 6) 5 (n0 + 6) 5 (0 : Int32) (0 : Int32) (5 : Int32)).bind fun M12 =>
  some M12
set_option maxHeartbeats 1000000 in
set_option maxRecDepth 20000 in
theorem t_X3_copyFrom {g : GG} {d : Nat} (hd : 2 ≤ d) {n0 : Nat} (hn0 : isN n0) {n1 : Nat} (hn1 : isN n1) {M : Mem} {M' : Mem} (hf : f_X3_copyFrom n0 n1 M = some M') : ExM g d iX3_copyFrom [.ref n0, .ref n1] LAY M (none, LAY, M') := by
  have hd1 : 1 ≤ d := by omega
  refine ExM.main pnX3 rfl (ls := [some (.ref n0), some (.ref n1)]) rfl ?_
  intro P hP
  rw [f_X3_copyFrom] at hf
  refine x_aload_n hP dX3_copyFrom_0 rfl ?_
  refine x_aload_n hP dX3_copyFrom_1 rfl ?_
  obtain ⟨t1, ht1, hrt1, hf⟩ := b_rT hf
  refine x_getM hP fX3_30 (layN hn1) hrt1 dX3_copyFrom_2 ?_
  obtain ⟨M2, hM2, hf⟩ := b_lt hf
  refine y_putM hP fX3_30 (layN hn0) hM2 dX3_copyFrom_5 ?_
  refine x_aload_n hP dX3_copyFrom_8 rfl ?_
  refine x_aload_n hP dX3_copyFrom_9 rfl ?_
  refine x_getI hP fX3_34 (layN hn1) dX3_copyFrom_10 ?_
  obtain ⟨M3, hM3, hf⟩ := b_lt hf
  refine y_putI hP fX3_34 (layN hn0) hM3 dX3_copyFrom_13 ?_
  refine x_aload_n hP dX3_copyFrom_16 rfl ?_
  refine x_aload_n hP dX3_copyFrom_17 rfl ?_
  refine x_getI hP fX3_43 (layN hn1) dX3_copyFrom_18 ?_
  obtain ⟨M4, hM4, hf⟩ := b_lt hf
  refine y_putI hP fX3_43 (layN hn0) hM4 dX3_copyFrom_21 ?_
  refine x_aload_n hP dX3_copyFrom_24 rfl ?_
  refine x_aload_n hP dX3_copyFrom_25 rfl ?_
  refine x_getI hP fX3_44 (layN hn1) dX3_copyFrom_26 ?_
  obtain ⟨M5, hM5, hf⟩ := b_lt hf
  refine y_putI hP fX3_44 (layN hn0) hM5 dX3_copyFrom_29 ?_
  refine x_aload_n hP dX3_copyFrom_32 rfl ?_
  refine x_aload_n hP dX3_copyFrom_33 rfl ?_
  refine x_getI hP fX3_47 (layN hn1) dX3_copyFrom_34 ?_
  obtain ⟨M6, hM6, hf⟩ := b_lt hf
  refine y_putI hP fX3_47 (layN hn0) hM6 dX3_copyFrom_37 ?_
  refine x_aload_n hP dX3_copyFrom_40 rfl ?_
  refine x_getA hP fX3_9 (layN hn1) (r := n1 + 1) rfl dX3_copyFrom_41 ?_
  refine x_iconst hP dX3_copyFrom_44 (v := 0) rfl ?_
  refine x_aload_n hP dX3_copyFrom_45 rfl ?_
  refine x_getA hP fX3_9 (layN hn0) (r := n0 + 1) rfl dX3_copyFrom_46 ?_
  refine x_iconst hP dX3_copyFrom_49 (v := 0) rfl ?_
  refine x_bipush hP dX3_copyFrom_50 (v := 6) rfl ?_
  obtain ⟨M7, hiM7, hM7, hf⟩ := b_cp hf
  refine y_cpy hP lX3_59 (layN_1 hn1) (layN_1 hn0) hiM7 hM7 rfl hd1 dX3_copyFrom_52 ?_
  refine x_aload_n hP dX3_copyFrom_55 rfl ?_
  refine x_getA hP fX3_15 (layN hn1) (r := n1 + 2) rfl dX3_copyFrom_56 ?_
  refine x_iconst hP dX3_copyFrom_59 (v := 0) rfl ?_
  refine x_aload_n hP dX3_copyFrom_60 rfl ?_
  refine x_getA hP fX3_15 (layN hn0) (r := n0 + 2) rfl dX3_copyFrom_61 ?_
  refine x_iconst hP dX3_copyFrom_64 (v := 0) rfl ?_
  refine x_bipush hP dX3_copyFrom_65 (v := 6) rfl ?_
  obtain ⟨M8, hiM8, hM8, hf⟩ := b_cp hf
  refine y_cpy hP lX3_59 (layN_2 hn1) (layN_2 hn0) hiM8 hM8 rfl hd1 dX3_copyFrom_67 ?_
  refine x_aload_n hP dX3_copyFrom_70 rfl ?_
  refine x_getA hP fX3_18 (layN hn1) (r := n1 + 3) rfl dX3_copyFrom_71 ?_
  refine x_iconst hP dX3_copyFrom_74 (v := 0) rfl ?_
  refine x_aload_n hP dX3_copyFrom_75 rfl ?_
  refine x_getA hP fX3_18 (layN hn0) (r := n0 + 3) rfl dX3_copyFrom_76 ?_
  refine x_iconst hP dX3_copyFrom_79 (v := 0) rfl ?_
  refine x_bipush hP dX3_copyFrom_80 (v := 6) rfl ?_
  obtain ⟨M9, hiM9, hM9, hf⟩ := b_cp hf
  refine y_cpy hP lX3_59 (layN_3 hn1) (layN_3 hn0) hiM9 hM9 rfl hd1 dX3_copyFrom_82 ?_
  refine x_aload_n hP dX3_copyFrom_85 rfl ?_
  refine x_getA hP fX3_21 (layN hn1) (r := n1 + 4) rfl dX3_copyFrom_86 ?_
  refine x_iconst hP dX3_copyFrom_89 (v := 0) rfl ?_
  refine x_aload_n hP dX3_copyFrom_90 rfl ?_
  refine x_getA hP fX3_21 (layN hn0) (r := n0 + 4) rfl dX3_copyFrom_91 ?_
  refine x_iconst hP dX3_copyFrom_94 (v := 0) rfl ?_
  refine x_bipush hP dX3_copyFrom_95 (v := 6) rfl ?_
  obtain ⟨M10, hiM10, hM10, hf⟩ := b_cp hf
  refine y_cpy hP lX3_59 (layN_4 hn1) (layN_4 hn0) hiM10 hM10 rfl hd1 dX3_copyFrom_97 ?_
  refine x_aload_n hP dX3_copyFrom_100 rfl ?_
  refine x_getA hP fX3_24 (layN hn1) (r := n1 + 5) rfl dX3_copyFrom_101 ?_
  refine x_iconst hP dX3_copyFrom_104 (v := 0) rfl ?_
  refine x_aload_n hP dX3_copyFrom_105 rfl ?_
  refine x_getA hP fX3_24 (layN hn0) (r := n0 + 5) rfl dX3_copyFrom_106 ?_
  refine x_iconst hP dX3_copyFrom_109 (v := 0) rfl ?_
  refine x_iconst hP dX3_copyFrom_110 (v := 5) rfl ?_
  obtain ⟨M11, hiM11, hM11, hf⟩ := b_cp hf
  refine y_cpy hP lX3_59 (layN_5 hn1) (layN_5 hn0) hiM11 hM11 rfl hd1 dX3_copyFrom_111 ?_
  refine x_aload_n hP dX3_copyFrom_114 rfl ?_
  refine x_getA hP fX3_27 (layN hn1) (r := n1 + 6) rfl dX3_copyFrom_115 ?_
  refine x_iconst hP dX3_copyFrom_118 (v := 0) rfl ?_
  refine x_aload_n hP dX3_copyFrom_119 rfl ?_
  refine x_getA hP fX3_27 (layN hn0) (r := n0 + 6) rfl dX3_copyFrom_120 ?_
  refine x_iconst hP dX3_copyFrom_123 (v := 0) rfl ?_
  refine x_iconst hP dX3_copyFrom_124 (v := 5) rfl ?_
  obtain ⟨M12, hiM12, hM12, hf⟩ := b_cp hf
  refine y_cpy hP lX3_59 (layN_6 hn1) (layN_6 hn0) hiM12 hM12 rfl hd1 dX3_copyFrom_125 ?_
  cases hf
  exact x_vret hP rfl dX3_copyFrom_128
def f_X3_lightAt_L4 (n0 : Nat) : Nat → Int32 → Int32 → Int32 → Mem → Option (Int32)
  | 0, _, _, _, _ => none
  | fu + 1, l1, l2, l3, M =>
    (rT M n0 0).bind fun t1 =>
    if M.1 t1 12 ≤ l3 then
      some l2
    else
      (ag M (n0 + 1) 6 l3).bind fun v3 =>
      if v3 = l1 then
        (ag M (n0 + 2) 6 l3).bind fun v5 =>
        lt (l2 + v5 : Int32) fun v6 =>
        lt (l3 + 1 : Int32) fun v7 =>
        f_X3_lightAt_L4 n0 fu l1 v6 v7 M
      else
        lt (l3 + 1 : Int32) fun v8 =>
        f_X3_lightAt_L4 n0 fu l1 l2 v8 M
def f_X3_lightAt (n0 : Nat) (x1 : Int32) (M : Mem) : Option (Int32) :=
  (f_X3_lightAt_L4 n0 FU x1 (0 : Int32) (0 : Int32) M).bind fun t9 =>
  some t9
set_option maxHeartbeats 1000000 in
set_option maxRecDepth 20000 in
theorem t_X3_lightAt_L4 {g : GG} {d : Nat} {P : PT} {res : Option RS} (hd : 1 ≤ d) {n0 : Nat} (hn0 : isN n0) (hP : IsM g iX3_lightAt d res P) : ∀ (fu : Nat) (l1 : Int32) (l2 : Int32) (l3 : Int32) (M : Mem) (t : Int32), f_X3_lightAt_L4 n0 fu l1 l2 l3 M = some t → P 40 [none, none, some (.int t), none] [] LAY M → P 4 [some (.ref n0), some (.int l1), some (.int l2), some (.int l3)] [] LAY M := by
  have hd1 : 1 ≤ d := by omega
  intro fu
  induction fu with
  | zero => intro l1 l2 l3 M t hf; simp [f_X3_lightAt_L4] at hf
  | succ fu ih =>
    intro l1 l2 l3 M t hf hx
    rw [f_X3_lightAt_L4] at hf
    refine x_iload_n hP dX3_lightAt_4 rfl ?_
    refine x_aload_n hP dX3_lightAt_5 rfl ?_
    obtain ⟨t1, ht1, hrt1, hf⟩ := b_rT hf
    refine x_getM hP fX3_30 (layN hn0) hrt1 dX3_lightAt_6 ?_
    refine x_getI hP fX3_71 (layT ht1) dX3_lightAt_9 ?_
    refine x_icmp_ge hP dX3_lightAt_12 (tgt := 40) (by decide) (fun c2 => ?_) (fun c2 => ?_)
    · replace hf := p_t c2 hf
      refine x_drop hP [none, none, some (.int l2), none] (And.intro rfl trivial) ?_
      cases hf
      exact hx
    · replace hf := p_f c2 hf
      refine x_aload_n hP dX3_lightAt_15 rfl ?_
      refine x_getA hP fX3_9 (layN hn0) (r := n0 + 1) rfl dX3_lightAt_16 ?_
      refine x_iload_n hP dX3_lightAt_19 rfl ?_
      obtain ⟨v3, hiv3, hv3, hf⟩ := b_ag hf
      refine y_ald hP (layN_1 hn0) hiv3 hv3 dX3_lightAt_20 ?_
      refine x_iload_n hP dX3_lightAt_21 rfl ?_
      refine x_icmp_ne hP dX3_lightAt_22 (tgt := 34) (by decide) (fun c4 => ?_) (fun c4 => ?_)
      · replace hf := p_f c4 hf
        obtain ⟨v8, hv8, hf⟩ := b_lt hf
        refine x_iinc hP (v := v8) (ls2 := [some (.ref n0), some (.int l1), some (.int l2), some (.int v8)]) dX3_lightAt_34 rfl (by rw [hv8]; rfl) rfl rfl ?_
        refine x_goto hP dX3_lightAt_37 (tgt := 4) (by decide) ?_
        refine x_drop hP [some (.ref n0), some (.int l1), some (.int l2), some (.int v8)] (And.intro rfl (And.intro rfl (And.intro rfl (And.intro rfl trivial)))) ?_
        exact ih _ _ _ _ _ hf hx
      · replace hf := p_t c4 hf
        refine x_iload_n hP dX3_lightAt_25 rfl ?_
        refine x_aload_n hP dX3_lightAt_26 rfl ?_
        refine x_getA hP fX3_15 (layN hn0) (r := n0 + 2) rfl dX3_lightAt_27 ?_
        refine x_iload_n hP dX3_lightAt_30 rfl ?_
        obtain ⟨v5, hiv5, hv5, hf⟩ := b_ag hf
        refine y_ald hP (layN_2 hn0) hiv5 hv5 dX3_lightAt_31 ?_
        refine x_iadd hP dX3_lightAt_32 ?_
        obtain ⟨v6, hv6, hf⟩ := b_lt hf
        refine y_nmI hv6 ?_
        refine x_istore_n hP (ls2 := [some (.ref n0), some (.int l1), some (.int v6), some (.int l3)]) dX3_lightAt_33 rfl rfl rfl ?_
        obtain ⟨v7, hv7, hf⟩ := b_lt hf
        refine x_iinc hP (v := v7) (ls2 := [some (.ref n0), some (.int l1), some (.int v6), some (.int v7)]) dX3_lightAt_34 rfl (by rw [hv7]; rfl) rfl rfl ?_
        refine x_goto hP dX3_lightAt_37 (tgt := 4) (by decide) ?_
        refine x_drop hP [some (.ref n0), some (.int l1), some (.int v6), some (.int v7)] (And.intro rfl (And.intro rfl (And.intro rfl (And.intro rfl trivial)))) ?_
        exact ih _ _ _ _ _ hf hx
set_option maxHeartbeats 1000000 in
set_option maxRecDepth 20000 in
theorem t_X3_lightAt {g : GG} {d : Nat} (hd : 1 ≤ d) {n0 : Nat} (hn0 : isN n0) {x1 : Int32} {M : Mem} {r : Int32} (hf : f_X3_lightAt n0 x1 M = some r) : ExM g d iX3_lightAt [.ref n0, .int x1] LAY M (some (.int r), LAY, M) := by
  have hd1 : 1 ≤ d := by omega
  refine ExM.main pnX3 rfl (ls := [some (.ref n0), some (.int x1), none, none]) rfl ?_
  intro P hP
  rw [f_X3_lightAt] at hf
  refine x_iconst hP dX3_lightAt_0 (v := 0) rfl ?_
  refine x_istore_n hP (ls2 := [some (.ref n0), some (.int x1), some (.int (0 : Int32)), none]) dX3_lightAt_1 rfl rfl rfl ?_
  refine x_iconst hP dX3_lightAt_2 (v := 0) rfl ?_
  refine x_istore_n hP (ls2 := [some (.ref n0), some (.int x1), some (.int (0 : Int32)), some (.int (0 : Int32))]) dX3_lightAt_3 rfl rfl rfl ?_
  refine x_drop hP [some (.ref n0), some (.int x1), some (.int (0 : Int32)), some (.int (0 : Int32))] (And.intro rfl (And.intro rfl (And.intro rfl (And.intro rfl trivial)))) ?_
  obtain ⟨t9, hl10, hf⟩ := b_bd hf
  refine t_X3_lightAt_L4 hd hn0 hP _ _ _ _ _ _ hl10 ?_
  refine x_iload_n hP dX3_lightAt_40 rfl ?_
  cases hf
  exact x_iret hP rfl dX3_lightAt_41
def f_X3_needsOf (n0 : Nat) (x1 : Int32) (M : Mem) : Option (Int32) :=
  (rT M n0 0).bind fun t1 =>
  (ag M (t1 + 3) 10 x1).bind fun v2 =>
  (rT M n0 0).bind fun t3 =>
  (ag M (t3 + 1) 10 x1).bind fun v4 =>
  (f_X3_lightAt n0 v4 M).bind fun v6 =>
  (rT M n0 0).bind fun t7 =>
  (ag M (t7 + 2) 10 x1).bind fun v8 =>
  (f_X3_lightAt n0 v8 M).bind fun v10 =>
  lt (if (0 : Int32) < (v2 - v6) - v10 then (v2 - v6) - v10 else (0 : Int32) : Int32) fun v11 =>
  some v11
set_option maxHeartbeats 1000000 in
set_option maxRecDepth 20000 in
theorem t_X3_needsOf {g : GG} {d : Nat} (hd : 2 ≤ d) {n0 : Nat} (hn0 : isN n0) {x1 : Int32} {M : Mem} {r : Int32} (hf : f_X3_needsOf n0 x1 M = some r) : ExM g d iX3_needsOf [.ref n0, .int x1] LAY M (some (.int r), LAY, M) := by
  have hd1 : 1 ≤ d := by omega
  refine ExM.main pnX3 rfl (ls := [some (.ref n0), some (.int x1)]) rfl ?_
  intro P hP
  rw [f_X3_needsOf] at hf
  refine x_iconst hP dX3_needsOf_0 (v := 0) rfl ?_
  refine x_aload_n hP dX3_needsOf_1 rfl ?_
  obtain ⟨t1, ht1, hrt1, hf⟩ := b_rT hf
  refine x_getM hP fX3_30 (layN hn0) hrt1 dX3_needsOf_2 ?_
  refine x_getA hP fX3_85 (layT ht1) (r := t1 + 3) rfl dX3_needsOf_5 ?_
  refine x_iload_n hP dX3_needsOf_8 rfl ?_
  obtain ⟨v2, hiv2, hv2, hf⟩ := b_ag hf
  refine y_ald hP (layT_3 ht1) hiv2 hv2 dX3_needsOf_9 ?_
  refine x_aload_n hP dX3_needsOf_10 rfl ?_
  refine x_aload_n hP dX3_needsOf_11 rfl ?_
  obtain ⟨t3, ht3, hrt3, hf⟩ := b_rT hf
  refine x_getM hP fX3_30 (layN hn0) hrt3 dX3_needsOf_12 ?_
  refine x_getA hP fX3_88 (layT ht3) (r := t3 + 1) rfl dX3_needsOf_15 ?_
  refine x_iload_n hP dX3_needsOf_18 rfl ?_
  obtain ⟨v4, hiv4, hv4, hf⟩ := b_ag hf
  refine y_ald hP (layT_1 ht3) hiv4 hv4 dX3_needsOf_19 ?_
  obtain ⟨v6, hc5, hf⟩ := b_bd hf
  refine y_cvi hP oX3_lightAt lX3_81 [.int v4] [.int v2, .int (0 : Int32)] rfl rfl rfl (layN hn0) dX3_needsOf_20 (t_X3_lightAt (d := d - 1) (by omega) hn0 hc5) (by omega) ?_
  refine x_isub hP dX3_needsOf_23 ?_
  refine x_aload_n hP dX3_needsOf_24 rfl ?_
  refine x_aload_n hP dX3_needsOf_25 rfl ?_
  obtain ⟨t7, ht7, hrt7, hf⟩ := b_rT hf
  refine x_getM hP fX3_30 (layN hn0) hrt7 dX3_needsOf_26 ?_
  refine x_getA hP fX3_91 (layT ht7) (r := t7 + 2) rfl dX3_needsOf_29 ?_
  refine x_iload_n hP dX3_needsOf_32 rfl ?_
  obtain ⟨v8, hiv8, hv8, hf⟩ := b_ag hf
  refine y_ald hP (layT_2 ht7) hiv8 hv8 dX3_needsOf_33 ?_
  obtain ⟨v10, hc9, hf⟩ := b_bd hf
  refine y_cvi hP oX3_lightAt lX3_81 [.int v8] [.int (v2 - v6), .int (0 : Int32)] rfl rfl rfl (layN hn0) dX3_needsOf_34 (t_X3_lightAt (d := d - 1) (by omega) hn0 hc9) (by omega) ?_
  refine x_isub hP dX3_needsOf_37 ?_
  refine y_max hP lX3_94 rfl hd1 dX3_needsOf_38 ?_
  obtain ⟨v11, hv11, hf⟩ := b_lt hf
  refine y_nmI hv11 ?_
  cases hf
  exact x_iret hP rfl dX3_needsOf_41
def f_X3_isLit (n0 : Nat) (x1 : Int32) (M : Mem) : Option (Int32) :=
  (f_X3_needsOf n0 x1 M).bind fun v2 =>
  if v2 = 0 then
    some (1 : Int32)
  else
    some (0 : Int32)
set_option maxHeartbeats 1000000 in
set_option maxRecDepth 20000 in
theorem t_X3_isLit {g : GG} {d : Nat} (hd : 3 ≤ d) {n0 : Nat} (hn0 : isN n0) {x1 : Int32} {M : Mem} {r : Int32} (hf : f_X3_isLit n0 x1 M = some r) : ExM g d iX3_isLit [.ref n0, .int x1] LAY M (some (.int r), LAY, M) := by
  have hd1 : 1 ≤ d := by omega
  refine ExM.main pnX3 rfl (ls := [some (.ref n0), some (.int x1)]) rfl ?_
  intro P hP
  rw [f_X3_isLit] at hf
  refine x_aload_n hP dX3_isLit_0 rfl ?_
  refine x_iload_n hP dX3_isLit_1 rfl ?_
  obtain ⟨v2, hc1, hf⟩ := b_bd hf
  refine y_cvi hP oX3_needsOf lX3_100 [.int x1] [] rfl rfl rfl (layN hn0) dX3_isLit_2 (t_X3_needsOf (d := d - 1) (by omega) hn0 hc1) (by omega) ?_
  refine x_if_ne hP dX3_isLit_5 (tgt := 12) (by decide) (fun c3 => ?_) (fun c3 => ?_)
  · replace hf := p_f c3 hf
    refine x_iconst hP dX3_isLit_12 (v := 0) rfl ?_
    cases hf
    exact x_zret hP rfl (Or.inl rfl) dX3_isLit_13
  · replace hf := p_t c3 hf
    refine x_iconst hP dX3_isLit_8 (v := 1) rfl ?_
    refine x_goto hP dX3_isLit_9 (tgt := 13) (by decide) ?_
    cases hf
    exact x_zret hP rfl (Or.inr rfl) dX3_isLit_13
def f_X3_begin (n0 : Nat) (t1 : Nat) (M : Mem) : Option (Mem) :=
  lt (sR M n0 0 (some t1)) fun M1 =>
  lt (sI M1 n0 1 (0 : Int32)) fun M2 =>
  lt (sI M2 n0 2 (M2.1 t1 14)) fun M3 =>
  lt (sI M3 n0 3 (0 : Int32)) fun M4 =>
  lt (sI M4 n0 4 (0 : Int32)) fun M5 =>
  (f_J7_fill_53178 (n0 + 2) 6 (0 : Int32) M5).bind fun M7 =>
  (f_J7_fill_53178 (n0 + 3) 6 (0 : Int32) M7).bind fun M9 =>
  (f_J7_fill_53178 (n0 + 4) 6 (0 : Int32) M9).bind fun M11 =>
  (f_J7_fill_53178 (n0 + 5) 5 (0 : Int32) M11).bind fun M13 =>
  (f_J7_fill_53178 (n0 + 6) 5 (0 : Int32) M13).bind fun M15 =>
  (cp M15 (t1 + 6) 6 (n0 + 1) 6 (0 : Int32) (0 : Int32) (6 : Int32)).bind fun M16 =>
  (cp M16 (t1 + 7) 5 (n0 + 5) 5 (0 : Int32) (0 : Int32) (M16.1 t1 13)).bind fun M17 =>
  some M17
set_option maxHeartbeats 1000000 in
set_option maxRecDepth 20000 in
theorem t_X3_begin {g : GG} {d : Nat} (hd : 2 ≤ d) {n0 : Nat} (hn0 : isN n0) {t1 : Nat} (ht1 : isT t1) {M : Mem} {M' : Mem} (hf : f_X3_begin n0 t1 M = some M') : ExM g d iX3_begin [.ref n0, .ref t1] LAY M (none, LAY, M') := by
  have hd1 : 1 ≤ d := by omega
  refine ExM.main pnX3 rfl (ls := [some (.ref n0), some (.ref t1)]) rfl ?_
  intro P hP
  rw [f_X3_begin] at hf
  refine x_aload_n hP dX3_begin_0 rfl ?_
  refine x_aload_n hP dX3_begin_1 rfl ?_
  obtain ⟨M1, hM1, hf⟩ := b_lt hf
  refine y_putM hP fX3_30 (layN hn0) hM1 dX3_begin_2 ?_
  refine x_aload_n hP dX3_begin_5 rfl ?_
  refine x_iconst hP dX3_begin_6 (v := 0) rfl ?_
  obtain ⟨M2, hM2, hf⟩ := b_lt hf
  refine y_putI hP fX3_34 (layN hn0) hM2 dX3_begin_7 ?_
  refine x_aload_n hP dX3_begin_10 rfl ?_
  refine x_aload_n hP dX3_begin_11 rfl ?_
  refine x_getI hP fX3_38 (layT ht1) dX3_begin_12 ?_
  obtain ⟨M3, hM3, hf⟩ := b_lt hf
  refine y_putI hP fX3_43 (layN hn0) hM3 dX3_begin_15 ?_
  refine x_aload_n hP dX3_begin_18 rfl ?_
  refine x_iconst hP dX3_begin_19 (v := 0) rfl ?_
  obtain ⟨M4, hM4, hf⟩ := b_lt hf
  refine y_putI hP fX3_44 (layN hn0) hM4 dX3_begin_20 ?_
  refine x_aload_n hP dX3_begin_23 rfl ?_
  refine x_iconst hP dX3_begin_24 (v := 0) rfl ?_
  obtain ⟨M5, hM5, hf⟩ := b_lt hf
  refine y_putI hP fX3_47 (layN hn0) hM5 dX3_begin_25 ?_
  refine x_aload_n hP dX3_begin_28 rfl ?_
  refine x_getA hP fX3_15 (layN hn0) (r := n0 + 2) rfl dX3_begin_29 ?_
  refine x_iconst hP dX3_begin_32 (v := 0) rfl ?_
  obtain ⟨M7, hc6, hf⟩ := b_bd hf
  refine y_csv hP oJ7_fill_53178 lX3_50 [.ref (n0 + 2), .int (0 : Int32)] [] rfl rfl rfl dX3_begin_33 (t_J7_fill_53178 (d := d - 1) (by omega) (layN_2 hn0) hc6) (by omega) ?_
  refine x_aload_n hP dX3_begin_36 rfl ?_
  refine x_getA hP fX3_18 (layN hn0) (r := n0 + 3) rfl dX3_begin_37 ?_
  refine x_iconst hP dX3_begin_40 (v := 0) rfl ?_
  obtain ⟨M9, hc8, hf⟩ := b_bd hf
  refine y_csv hP oJ7_fill_53178 lX3_50 [.ref (n0 + 3), .int (0 : Int32)] [] rfl rfl rfl dX3_begin_41 (t_J7_fill_53178 (d := d - 1) (by omega) (layN_3 hn0) hc8) (by omega) ?_
  refine x_aload_n hP dX3_begin_44 rfl ?_
  refine x_getA hP fX3_21 (layN hn0) (r := n0 + 4) rfl dX3_begin_45 ?_
  refine x_iconst hP dX3_begin_48 (v := 0) rfl ?_
  obtain ⟨M11, hc10, hf⟩ := b_bd hf
  refine y_csv hP oJ7_fill_53178 lX3_50 [.ref (n0 + 4), .int (0 : Int32)] [] rfl rfl rfl dX3_begin_49 (t_J7_fill_53178 (d := d - 1) (by omega) (layN_4 hn0) hc10) (by omega) ?_
  refine x_aload_n hP dX3_begin_52 rfl ?_
  refine x_getA hP fX3_24 (layN hn0) (r := n0 + 5) rfl dX3_begin_53 ?_
  refine x_iconst hP dX3_begin_56 (v := 0) rfl ?_
  obtain ⟨M13, hc12, hf⟩ := b_bd hf
  refine y_csv hP oJ7_fill_53178 lX3_50 [.ref (n0 + 5), .int (0 : Int32)] [] rfl rfl rfl dX3_begin_57 (t_J7_fill_53178 (d := d - 1) (by omega) (layN_5 hn0) hc12) (by omega) ?_
  refine x_aload_n hP dX3_begin_60 rfl ?_
  refine x_getA hP fX3_27 (layN hn0) (r := n0 + 6) rfl dX3_begin_61 ?_
  refine x_iconst hP dX3_begin_64 (v := 0) rfl ?_
  obtain ⟨M15, hc14, hf⟩ := b_bd hf
  refine y_csv hP oJ7_fill_53178 lX3_50 [.ref (n0 + 6), .int (0 : Int32)] [] rfl rfl rfl dX3_begin_65 (t_J7_fill_53178 (d := d - 1) (by omega) (layN_6 hn0) hc14) (by omega) ?_
  refine x_aload_n hP dX3_begin_68 rfl ?_
  refine x_getA hP fX3_56 (layT ht1) (r := t1 + 6) rfl dX3_begin_69 ?_
  refine x_iconst hP dX3_begin_72 (v := 0) rfl ?_
  refine x_aload_n hP dX3_begin_73 rfl ?_
  refine x_getA hP fX3_9 (layN hn0) (r := n0 + 1) rfl dX3_begin_74 ?_
  refine x_iconst hP dX3_begin_77 (v := 0) rfl ?_
  refine x_bipush hP dX3_begin_78 (v := 6) rfl ?_
  obtain ⟨M16, hiM16, hM16, hf⟩ := b_cp hf
  refine y_cpy hP lX3_59 (layT_6 ht1) (layN_1 hn0) hiM16 hM16 rfl hd1 dX3_begin_80 ?_
  refine x_aload_n hP dX3_begin_83 rfl ?_
  refine x_getA hP fX3_65 (layT ht1) (r := t1 + 7) rfl dX3_begin_84 ?_
  refine x_iconst hP dX3_begin_87 (v := 0) rfl ?_
  refine x_aload_n hP dX3_begin_88 rfl ?_
  refine x_getA hP fX3_24 (layN hn0) (r := n0 + 5) rfl dX3_begin_89 ?_
  refine x_iconst hP dX3_begin_92 (v := 0) rfl ?_
  refine x_aload_n hP dX3_begin_93 rfl ?_
  refine x_getI hP fX3_68 (layT ht1) dX3_begin_94 ?_
  obtain ⟨M17, hiM17, hM17, hf⟩ := b_cp hf
  refine y_cpy hP lX3_59 (layT_7 ht1) (layN_5 hn0) hiM17 hM17 rfl hd1 dX3_begin_97 ?_
  cases hf
  exact x_vret hP rfl dX3_begin_100
def f_X3_whoIsAt_L4 (n0 : Nat) : Nat → Int32 → Int32 → Int32 → Mem → Option (Int32)
  | 0, _, _, _, _ => none
  | fu + 1, l1, l2, l3, M =>
    (rT M n0 0).bind fun t1 =>
    if M.1 t1 12 ≤ l3 then
      some l2
    else
      (ag M (n0 + 1) 6 l3).bind fun v3 =>
      if v3 = l1 then
        (f_X3_isHome n0 l3 M).bind fun v6 =>
        if v6 = 0 then
          lt (l2 ||| ((1 : Int32) <<< (l3 &&& 31)) : Int32) fun v8 =>
          lt (l3 + 1 : Int32) fun v9 =>
          f_X3_whoIsAt_L4 n0 fu l1 v8 v9 M
        else
          lt (l3 + 1 : Int32) fun v10 =>
          f_X3_whoIsAt_L4 n0 fu l1 l2 v10 M
      else
        lt (l3 + 1 : Int32) fun v11 =>
        f_X3_whoIsAt_L4 n0 fu l1 l2 v11 M
def f_X3_whoIsAt (n0 : Nat) (x1 : Int32) (M : Mem) : Option (Int32) :=
  (f_X3_whoIsAt_L4 n0 FU x1 (0 : Int32) (0 : Int32) M).bind fun t12 =>
  some t12
set_option maxHeartbeats 1000000 in
set_option maxRecDepth 20000 in
theorem t_X3_whoIsAt_L4 {g : GG} {d : Nat} {P : PT} {res : Option RS} (hd : 2 ≤ d) {n0 : Nat} (hn0 : isN n0) (hP : IsM g iX3_whoIsAt d res P) : ∀ (fu : Nat) (l1 : Int32) (l2 : Int32) (l3 : Int32) (M : Mem) (t : Int32), f_X3_whoIsAt_L4 n0 fu l1 l2 l3 M = some t → P 45 [none, none, some (.int t), none] [] LAY M → P 4 [some (.ref n0), some (.int l1), some (.int l2), some (.int l3)] [] LAY M := by
  have hd1 : 1 ≤ d := by omega
  intro fu
  induction fu with
  | zero => intro l1 l2 l3 M t hf; simp [f_X3_whoIsAt_L4] at hf
  | succ fu ih =>
    intro l1 l2 l3 M t hf hx
    rw [f_X3_whoIsAt_L4] at hf
    refine x_iload_n hP dX3_whoIsAt_4 rfl ?_
    refine x_aload_n hP dX3_whoIsAt_5 rfl ?_
    obtain ⟨t1, ht1, hrt1, hf⟩ := b_rT hf
    refine x_getM hP fX3_30 (layN hn0) hrt1 dX3_whoIsAt_6 ?_
    refine x_getI hP fX3_71 (layT ht1) dX3_whoIsAt_9 ?_
    refine x_icmp_ge hP dX3_whoIsAt_12 (tgt := 45) (by decide) (fun c2 => ?_) (fun c2 => ?_)
    · replace hf := p_t c2 hf
      refine x_drop hP [none, none, some (.int l2), none] (And.intro rfl trivial) ?_
      cases hf
      exact hx
    · replace hf := p_f c2 hf
      refine x_aload_n hP dX3_whoIsAt_15 rfl ?_
      refine x_getA hP fX3_9 (layN hn0) (r := n0 + 1) rfl dX3_whoIsAt_16 ?_
      refine x_iload_n hP dX3_whoIsAt_19 rfl ?_
      obtain ⟨v3, hiv3, hv3, hf⟩ := b_ag hf
      refine y_ald hP (layN_1 hn0) hiv3 hv3 dX3_whoIsAt_20 ?_
      refine x_iload_n hP dX3_whoIsAt_21 rfl ?_
      refine x_icmp_ne hP dX3_whoIsAt_22 (tgt := 39) (by decide) (fun c4 => ?_) (fun c4 => ?_)
      · replace hf := p_f c4 hf
        obtain ⟨v11, hv11, hf⟩ := b_lt hf
        refine x_iinc hP (v := v11) (ls2 := [some (.ref n0), some (.int l1), some (.int l2), some (.int v11)]) dX3_whoIsAt_39 rfl (by rw [hv11]; rfl) rfl rfl ?_
        refine x_goto hP dX3_whoIsAt_42 (tgt := 4) (by decide) ?_
        refine x_drop hP [some (.ref n0), some (.int l1), some (.int l2), some (.int v11)] (And.intro rfl (And.intro rfl (And.intro rfl (And.intro rfl trivial)))) ?_
        exact ih _ _ _ _ _ hf hx
      · replace hf := p_t c4 hf
        refine x_aload_n hP dX3_whoIsAt_25 rfl ?_
        refine x_iload_n hP dX3_whoIsAt_26 rfl ?_
        obtain ⟨v6, hc5, hf⟩ := b_bd hf
        refine y_cvi hP oX3_isHome lX3_74 [.int l3] [] rfl rfl rfl (layN hn0) dX3_whoIsAt_27 (t_X3_isHome (d := d - 1) (by omega) hn0 hc5) (by omega) ?_
        refine x_if_ne hP dX3_whoIsAt_30 (tgt := 39) (by decide) (fun c7 => ?_) (fun c7 => ?_)
        · replace hf := p_f c7 hf
          obtain ⟨v10, hv10, hf⟩ := b_lt hf
          refine x_iinc hP (v := v10) (ls2 := [some (.ref n0), some (.int l1), some (.int l2), some (.int v10)]) dX3_whoIsAt_39 rfl (by rw [hv10]; rfl) rfl rfl ?_
          refine x_goto hP dX3_whoIsAt_42 (tgt := 4) (by decide) ?_
          refine x_drop hP [some (.ref n0), some (.int l1), some (.int l2), some (.int v10)] (And.intro rfl (And.intro rfl (And.intro rfl (And.intro rfl trivial)))) ?_
          exact ih _ _ _ _ _ hf hx
        · replace hf := p_t c7 hf
          refine x_iload_n hP dX3_whoIsAt_33 rfl ?_
          refine x_iconst hP dX3_whoIsAt_34 (v := 1) rfl ?_
          refine x_iload_n hP dX3_whoIsAt_35 rfl ?_
          refine x_ishl hP dX3_whoIsAt_36 ?_
          refine x_ior hP dX3_whoIsAt_37 ?_
          obtain ⟨v8, hv8, hf⟩ := b_lt hf
          refine y_nmI hv8 ?_
          refine x_istore_n hP (ls2 := [some (.ref n0), some (.int l1), some (.int v8), some (.int l3)]) dX3_whoIsAt_38 rfl rfl rfl ?_
          obtain ⟨v9, hv9, hf⟩ := b_lt hf
          refine x_iinc hP (v := v9) (ls2 := [some (.ref n0), some (.int l1), some (.int v8), some (.int v9)]) dX3_whoIsAt_39 rfl (by rw [hv9]; rfl) rfl rfl ?_
          refine x_goto hP dX3_whoIsAt_42 (tgt := 4) (by decide) ?_
          refine x_drop hP [some (.ref n0), some (.int l1), some (.int v8), some (.int v9)] (And.intro rfl (And.intro rfl (And.intro rfl (And.intro rfl trivial)))) ?_
          exact ih _ _ _ _ _ hf hx
set_option maxHeartbeats 1000000 in
set_option maxRecDepth 20000 in
theorem t_X3_whoIsAt {g : GG} {d : Nat} (hd : 2 ≤ d) {n0 : Nat} (hn0 : isN n0) {x1 : Int32} {M : Mem} {r : Int32} (hf : f_X3_whoIsAt n0 x1 M = some r) : ExM g d iX3_whoIsAt [.ref n0, .int x1] LAY M (some (.int r), LAY, M) := by
  have hd1 : 1 ≤ d := by omega
  refine ExM.main pnX3 rfl (ls := [some (.ref n0), some (.int x1), none, none]) rfl ?_
  intro P hP
  rw [f_X3_whoIsAt] at hf
  refine x_iconst hP dX3_whoIsAt_0 (v := 0) rfl ?_
  refine x_istore_n hP (ls2 := [some (.ref n0), some (.int x1), some (.int (0 : Int32)), none]) dX3_whoIsAt_1 rfl rfl rfl ?_
  refine x_iconst hP dX3_whoIsAt_2 (v := 0) rfl ?_
  refine x_istore_n hP (ls2 := [some (.ref n0), some (.int x1), some (.int (0 : Int32)), some (.int (0 : Int32))]) dX3_whoIsAt_3 rfl rfl rfl ?_
  refine x_drop hP [some (.ref n0), some (.int x1), some (.int (0 : Int32)), some (.int (0 : Int32))] (And.intro rfl (And.intro rfl (And.intro rfl (And.intro rfl trivial)))) ?_
  obtain ⟨t12, hl13, hf⟩ := b_bd hf
  refine t_X3_whoIsAt_L4 hd hn0 hP _ _ _ _ _ _ hl13 ?_
  refine x_iload_n hP dX3_whoIsAt_45 rfl ?_
  cases hf
  exact x_iret hP rfl dX3_whoIsAt_46
def f_X3_cornersInUse_L4 (n0 : Nat) : Nat → Int32 → Int32 → Mem → Option (Int32)
  | 0, _, _, _ => none
  | fu + 1, l1, l2, M =>
    (rT M n0 0).bind fun t1 =>
    if M.1 t1 12 ≤ l2 then
      some l1
    else
      (f_X3_isHome n0 l2 M).bind fun v4 =>
      if v4 = 0 then
        (ag M (n0 + 1) 6 l2).bind fun v6 =>
        lt (l1 ||| ((1 : Int32) <<< (v6 &&& 31)) : Int32) fun v7 =>
        lt (l2 + 1 : Int32) fun v8 =>
        f_X3_cornersInUse_L4 n0 fu v7 v8 M
      else
        lt (l2 + 1 : Int32) fun v9 =>
        f_X3_cornersInUse_L4 n0 fu l1 v9 M
def f_X3_cornersInUse (n0 : Nat) (M : Mem) : Option (Int32) :=
  (f_X3_cornersInUse_L4 n0 FU (0 : Int32) (0 : Int32) M).bind fun t10 =>
  some t10
set_option maxHeartbeats 1000000 in
set_option maxRecDepth 20000 in
theorem t_X3_cornersInUse_L4 {g : GG} {d : Nat} {P : PT} {res : Option RS} (hd : 2 ≤ d) {n0 : Nat} (hn0 : isN n0) (hP : IsM g iX3_cornersInUse d res P) : ∀ (fu : Nat) (l1 : Int32) (l2 : Int32) (M : Mem) (t : Int32), f_X3_cornersInUse_L4 n0 fu l1 l2 M = some t → P 40 [none, some (.int t), none] [] LAY M → P 4 [some (.ref n0), some (.int l1), some (.int l2)] [] LAY M := by
  have hd1 : 1 ≤ d := by omega
  intro fu
  induction fu with
  | zero => intro l1 l2 M t hf; simp [f_X3_cornersInUse_L4] at hf
  | succ fu ih =>
    intro l1 l2 M t hf hx
    rw [f_X3_cornersInUse_L4] at hf
    refine x_iload_n hP dX3_cornersInUse_4 rfl ?_
    refine x_aload_n hP dX3_cornersInUse_5 rfl ?_
    obtain ⟨t1, ht1, hrt1, hf⟩ := b_rT hf
    refine x_getM hP fX3_30 (layN hn0) hrt1 dX3_cornersInUse_6 ?_
    refine x_getI hP fX3_71 (layT ht1) dX3_cornersInUse_9 ?_
    refine x_icmp_ge hP dX3_cornersInUse_12 (tgt := 40) (by decide) (fun c2 => ?_) (fun c2 => ?_)
    · replace hf := p_t c2 hf
      refine x_drop hP [none, some (.int l1), none] (And.intro rfl trivial) ?_
      cases hf
      exact hx
    · replace hf := p_f c2 hf
      refine x_aload_n hP dX3_cornersInUse_15 rfl ?_
      refine x_iload_n hP dX3_cornersInUse_16 rfl ?_
      obtain ⟨v4, hc3, hf⟩ := b_bd hf
      refine y_cvi hP oX3_isHome lX3_74 [.int l2] [] rfl rfl rfl (layN hn0) dX3_cornersInUse_17 (t_X3_isHome (d := d - 1) (by omega) hn0 hc3) (by omega) ?_
      refine x_if_ne hP dX3_cornersInUse_20 (tgt := 34) (by decide) (fun c5 => ?_) (fun c5 => ?_)
      · replace hf := p_f c5 hf
        obtain ⟨v9, hv9, hf⟩ := b_lt hf
        refine x_iinc hP (v := v9) (ls2 := [some (.ref n0), some (.int l1), some (.int v9)]) dX3_cornersInUse_34 rfl (by rw [hv9]; rfl) rfl rfl ?_
        refine x_goto hP dX3_cornersInUse_37 (tgt := 4) (by decide) ?_
        refine x_drop hP [some (.ref n0), some (.int l1), some (.int v9)] (And.intro rfl (And.intro rfl (And.intro rfl trivial))) ?_
        exact ih _ _ _ _ hf hx
      · replace hf := p_t c5 hf
        refine x_iload_n hP dX3_cornersInUse_23 rfl ?_
        refine x_iconst hP dX3_cornersInUse_24 (v := 1) rfl ?_
        refine x_aload_n hP dX3_cornersInUse_25 rfl ?_
        refine x_getA hP fX3_9 (layN hn0) (r := n0 + 1) rfl dX3_cornersInUse_26 ?_
        refine x_iload_n hP dX3_cornersInUse_29 rfl ?_
        obtain ⟨v6, hiv6, hv6, hf⟩ := b_ag hf
        refine y_ald hP (layN_1 hn0) hiv6 hv6 dX3_cornersInUse_30 ?_
        refine x_ishl hP dX3_cornersInUse_31 ?_
        refine x_ior hP dX3_cornersInUse_32 ?_
        obtain ⟨v7, hv7, hf⟩ := b_lt hf
        refine y_nmI hv7 ?_
        refine x_istore_n hP (ls2 := [some (.ref n0), some (.int v7), some (.int l2)]) dX3_cornersInUse_33 rfl rfl rfl ?_
        obtain ⟨v8, hv8, hf⟩ := b_lt hf
        refine x_iinc hP (v := v8) (ls2 := [some (.ref n0), some (.int v7), some (.int v8)]) dX3_cornersInUse_34 rfl (by rw [hv8]; rfl) rfl rfl ?_
        refine x_goto hP dX3_cornersInUse_37 (tgt := 4) (by decide) ?_
        refine x_drop hP [some (.ref n0), some (.int v7), some (.int v8)] (And.intro rfl (And.intro rfl (And.intro rfl trivial))) ?_
        exact ih _ _ _ _ hf hx
set_option maxHeartbeats 1000000 in
set_option maxRecDepth 20000 in
theorem t_X3_cornersInUse {g : GG} {d : Nat} (hd : 2 ≤ d) {n0 : Nat} (hn0 : isN n0) {M : Mem} {r : Int32} (hf : f_X3_cornersInUse n0 M = some r) : ExM g d iX3_cornersInUse [.ref n0] LAY M (some (.int r), LAY, M) := by
  have hd1 : 1 ≤ d := by omega
  refine ExM.main pnX3 rfl (ls := [some (.ref n0), none, none]) rfl ?_
  intro P hP
  rw [f_X3_cornersInUse] at hf
  refine x_iconst hP dX3_cornersInUse_0 (v := 0) rfl ?_
  refine x_istore_n hP (ls2 := [some (.ref n0), some (.int (0 : Int32)), none]) dX3_cornersInUse_1 rfl rfl rfl ?_
  refine x_iconst hP dX3_cornersInUse_2 (v := 0) rfl ?_
  refine x_istore_n hP (ls2 := [some (.ref n0), some (.int (0 : Int32)), some (.int (0 : Int32))]) dX3_cornersInUse_3 rfl rfl rfl ?_
  refine x_drop hP [some (.ref n0), some (.int (0 : Int32)), some (.int (0 : Int32))] (And.intro rfl (And.intro rfl (And.intro rfl trivial))) ?_
  obtain ⟨t10, hl11, hf⟩ := b_bd hf
  refine t_X3_cornersInUse_L4 hd hn0 hP _ _ _ _ _ hl11 ?_
  refine x_iload_n hP dX3_cornersInUse_40 rfl ?_
  cases hf
  exact x_iret hP rfl dX3_cornersInUse_41
def f_X3_firstOut_L2 (n0 : Nat) (k : Unit → Option (Int32)) : Nat → Int32 → Mem → Option (Int32)
  | 0, _, _ => none
  | fu + 1, l1, M =>
    (rT M n0 0).bind fun t1 =>
    if M.1 t1 12 ≤ l1 then
      k ()
    else
      (f_X3_isHome n0 l1 M).bind fun v4 =>
      if v4 = 0 then
        some l1
      else
        lt (l1 + 1 : Int32) fun v6 =>
        f_X3_firstOut_L2 n0 k fu v6 M
def f_X3_firstOut (n0 : Nat) (M : Mem) : Option (Int32) :=
  f_X3_firstOut_L2 n0 (fun t7 =>
      some (-1 : Int32)
    ) FU (0 : Int32) M
set_option maxHeartbeats 1000000 in
set_option maxRecDepth 20000 in
theorem t_X3_firstOut_L2 {g : GG} {d : Nat} {P : PT} {M : Mem} {r : Int32} (hd : 2 ≤ d) {n0 : Nat} (hn0 : isN n0)  (hP : IsM g iX3_firstOut d (some (some (.int r), LAY, M)) P) {k : Unit → Option (Int32)} (hk : ∀ t : Unit, k t = some r → P 29 [none, none] [] LAY M) : ∀ (fu : Nat) (l1 : Int32), f_X3_firstOut_L2 n0 k fu l1 M = some r → P 2 [some (.ref n0), some (.int l1)] [] LAY M := by
  have hd1 : 1 ≤ d := by omega
  intro fu
  induction fu with
  | zero => intro l1 hf; simp [f_X3_firstOut_L2] at hf
  | succ fu ih =>
    intro l1 hf
    rw [f_X3_firstOut_L2] at hf
    refine x_iload_n hP dX3_firstOut_2 rfl ?_
    refine x_aload_n hP dX3_firstOut_3 rfl ?_
    obtain ⟨t1, ht1, hrt1, hf⟩ := b_rT hf
    refine x_getM hP fX3_30 (layN hn0) hrt1 dX3_firstOut_4 ?_
    refine x_getI hP fX3_71 (layT ht1) dX3_firstOut_7 ?_
    refine x_icmp_ge hP dX3_firstOut_10 (tgt := 29) (by decide) (fun c2 => ?_) (fun c2 => ?_)
    · replace hf := p_t c2 hf
      refine x_drop hP [none, none] trivial ?_
      exact hk _ hf
    · replace hf := p_f c2 hf
      refine x_aload_n hP dX3_firstOut_13 rfl ?_
      refine x_iload_n hP dX3_firstOut_14 rfl ?_
      obtain ⟨v4, hc3, hf⟩ := b_bd hf
      refine y_cvi hP oX3_isHome lX3_74 [.int l1] [] rfl rfl rfl (layN hn0) dX3_firstOut_15 (t_X3_isHome (d := d - 1) (by omega) hn0 hc3) (by omega) ?_
      refine x_if_ne hP dX3_firstOut_18 (tgt := 23) (by decide) (fun c5 => ?_) (fun c5 => ?_)
      · replace hf := p_f c5 hf
        obtain ⟨v6, hv6, hf⟩ := b_lt hf
        refine x_iinc hP (v := v6) (ls2 := [some (.ref n0), some (.int v6)]) dX3_firstOut_23 rfl (by rw [hv6]; rfl) rfl rfl ?_
        refine x_goto hP dX3_firstOut_26 (tgt := 2) (by decide) ?_
        refine x_drop hP [some (.ref n0), some (.int v6)] (And.intro rfl (And.intro rfl trivial)) ?_
        exact ih _ hf
      · replace hf := p_t c5 hf
        refine x_iload_n hP dX3_firstOut_21 rfl ?_
        cases hf
        exact x_iret hP rfl dX3_firstOut_22
set_option maxHeartbeats 1000000 in
set_option maxRecDepth 20000 in
theorem t_X3_firstOut {g : GG} {d : Nat} (hd : 2 ≤ d) {n0 : Nat} (hn0 : isN n0) {M : Mem} {r : Int32} (hf : f_X3_firstOut n0 M = some r) : ExM g d iX3_firstOut [.ref n0] LAY M (some (.int r), LAY, M) := by
  have hd1 : 1 ≤ d := by omega
  refine ExM.main pnX3 rfl (ls := [some (.ref n0), none]) rfl ?_
  intro P hP
  rw [f_X3_firstOut] at hf
  refine x_iconst hP dX3_firstOut_0 (v := 0) rfl ?_
  refine x_istore_n hP (ls2 := [some (.ref n0), some (.int (0 : Int32))]) dX3_firstOut_1 rfl rfl rfl ?_
  refine x_drop hP [some (.ref n0), some (.int (0 : Int32))] (And.intro rfl (And.intro rfl trivial)) ?_
  refine t_X3_firstOut_L2 hd hn0 hP (fun t7 hf => ?_) _ _ hf
  refine x_iconst hP dX3_firstOut_29 (v := (-1)) rfl ?_
  cases hf
  exact x_iret hP rfl dX3_firstOut_30
def f_X3_lightestCorner_L4 (n0 : Nat) : Nat → Int32 → Int32 → Mem → Option (Int32)
  | 0, _, _, _ => none
  | fu + 1, l1, l2, M =>
    (rT M n0 0).bind fun t1 =>
    if M.1 t1 10 ≤ l2 then
      some l1
    else
      (f_X3_lightAt n0 l2 M).bind fun v4 =>
      (f_X3_lightAt n0 l1 M).bind fun v6 =>
      if v4 ≤ v6 then
        lt (l2 + 1 : Int32) fun v8 =>
        f_X3_lightestCorner_L4 n0 fu l1 v8 M
      else
        lt (l2 + 1 : Int32) fun v9 =>
        f_X3_lightestCorner_L4 n0 fu l2 v9 M
def f_X3_lightestCorner (n0 : Nat) (M : Mem) : Option (Int32) :=
  (f_X3_lightestCorner_L4 n0 FU (0 : Int32) (1 : Int32) M).bind fun t10 =>
  some t10
set_option maxHeartbeats 1000000 in
set_option maxRecDepth 20000 in
theorem t_X3_lightestCorner_L4 {g : GG} {d : Nat} {P : PT} {res : Option RS} (hd : 2 ≤ d) {n0 : Nat} (hn0 : isN n0) (hP : IsM g iX3_lightestCorner d res P) : ∀ (fu : Nat) (l1 : Int32) (l2 : Int32) (M : Mem) (t : Int32), f_X3_lightestCorner_L4 n0 fu l1 l2 M = some t → P 36 [none, some (.int t), none] [] LAY M → P 4 [some (.ref n0), some (.int l1), some (.int l2)] [] LAY M := by
  have hd1 : 1 ≤ d := by omega
  intro fu
  induction fu with
  | zero => intro l1 l2 M t hf; simp [f_X3_lightestCorner_L4] at hf
  | succ fu ih =>
    intro l1 l2 M t hf hx
    rw [f_X3_lightestCorner_L4] at hf
    refine x_iload_n hP dX3_lightestCorner_4 rfl ?_
    refine x_aload_n hP dX3_lightestCorner_5 rfl ?_
    obtain ⟨t1, ht1, hrt1, hf⟩ := b_rT hf
    refine x_getM hP fX3_30 (layN hn0) hrt1 dX3_lightestCorner_6 ?_
    refine x_getI hP fX3_78 (layT ht1) dX3_lightestCorner_9 ?_
    refine x_icmp_ge hP dX3_lightestCorner_12 (tgt := 36) (by decide) (fun c2 => ?_) (fun c2 => ?_)
    · replace hf := p_t c2 hf
      refine x_drop hP [none, some (.int l1), none] (And.intro rfl trivial) ?_
      cases hf
      exact hx
    · replace hf := p_f c2 hf
      refine x_aload_n hP dX3_lightestCorner_15 rfl ?_
      refine x_iload_n hP dX3_lightestCorner_16 rfl ?_
      obtain ⟨v4, hc3, hf⟩ := b_bd hf
      refine y_cvi hP oX3_lightAt lX3_81 [.int l2] [] rfl rfl rfl (layN hn0) dX3_lightestCorner_17 (t_X3_lightAt (d := d - 1) (by omega) hn0 hc3) (by omega) ?_
      refine x_aload_n hP dX3_lightestCorner_20 rfl ?_
      refine x_iload_n hP dX3_lightestCorner_21 rfl ?_
      obtain ⟨v6, hc5, hf⟩ := b_bd hf
      refine y_cvi hP oX3_lightAt lX3_81 [.int l1] [.int v4] rfl rfl rfl (layN hn0) dX3_lightestCorner_22 (t_X3_lightAt (d := d - 1) (by omega) hn0 hc5) (by omega) ?_
      refine x_icmp_le hP dX3_lightestCorner_25 (tgt := 30) (by decide) (fun c7 => ?_) (fun c7 => ?_)
      · replace hf := p_t c7 hf
        obtain ⟨v8, hv8, hf⟩ := b_lt hf
        refine x_iinc hP (v := v8) (ls2 := [some (.ref n0), some (.int l1), some (.int v8)]) dX3_lightestCorner_30 rfl (by rw [hv8]; rfl) rfl rfl ?_
        refine x_goto hP dX3_lightestCorner_33 (tgt := 4) (by decide) ?_
        refine x_drop hP [some (.ref n0), some (.int l1), some (.int v8)] (And.intro rfl (And.intro rfl (And.intro rfl trivial))) ?_
        exact ih _ _ _ _ hf hx
      · replace hf := p_f c7 hf
        refine x_iload_n hP dX3_lightestCorner_28 rfl ?_
        refine x_istore_n hP (ls2 := [some (.ref n0), some (.int l2), some (.int l2)]) dX3_lightestCorner_29 rfl rfl rfl ?_
        obtain ⟨v9, hv9, hf⟩ := b_lt hf
        refine x_iinc hP (v := v9) (ls2 := [some (.ref n0), some (.int l2), some (.int v9)]) dX3_lightestCorner_30 rfl (by rw [hv9]; rfl) rfl rfl ?_
        refine x_goto hP dX3_lightestCorner_33 (tgt := 4) (by decide) ?_
        refine x_drop hP [some (.ref n0), some (.int l2), some (.int v9)] (And.intro rfl (And.intro rfl (And.intro rfl trivial))) ?_
        exact ih _ _ _ _ hf hx
set_option maxHeartbeats 1000000 in
set_option maxRecDepth 20000 in
theorem t_X3_lightestCorner {g : GG} {d : Nat} (hd : 2 ≤ d) {n0 : Nat} (hn0 : isN n0) {M : Mem} {r : Int32} (hf : f_X3_lightestCorner n0 M = some r) : ExM g d iX3_lightestCorner [.ref n0] LAY M (some (.int r), LAY, M) := by
  have hd1 : 1 ≤ d := by omega
  refine ExM.main pnX3 rfl (ls := [some (.ref n0), none, none]) rfl ?_
  intro P hP
  rw [f_X3_lightestCorner] at hf
  refine x_iconst hP dX3_lightestCorner_0 (v := 0) rfl ?_
  refine x_istore_n hP (ls2 := [some (.ref n0), some (.int (0 : Int32)), none]) dX3_lightestCorner_1 rfl rfl rfl ?_
  refine x_iconst hP dX3_lightestCorner_2 (v := 1) rfl ?_
  refine x_istore_n hP (ls2 := [some (.ref n0), some (.int (0 : Int32)), some (.int (1 : Int32))]) dX3_lightestCorner_3 rfl rfl rfl ?_
  refine x_drop hP [some (.ref n0), some (.int (0 : Int32)), some (.int (1 : Int32))] (And.intro rfl (And.intro rfl (And.intro rfl trivial))) ?_
  obtain ⟨t10, hl11, hf⟩ := b_bd hf
  refine t_X3_lightestCorner_L4 hd hn0 hP _ _ _ _ _ hl11 ?_
  refine x_iload_n hP dX3_lightestCorner_36 rfl ?_
  cases hf
  exact x_iret hP rfl dX3_lightestCorner_37
def f_X3_litStreets_L4 (n0 : Nat) : Nat → Int32 → Int32 → Mem → Option (Int32)
  | 0, _, _, _ => none
  | fu + 1, l1, l2, M =>
    (rT M n0 0).bind fun t1 =>
    if M.1 t1 11 ≤ l2 then
      some l1
    else
      (f_X3_isLit n0 l2 M).bind fun v4 =>
      if v4 = 0 then
        lt (l2 + 1 : Int32) fun v6 =>
        f_X3_litStreets_L4 n0 fu l1 v6 M
      else
        lt (l1 ||| ((1 : Int32) <<< (l2 &&& 31)) : Int32) fun v7 =>
        lt (l2 + 1 : Int32) fun v8 =>
        f_X3_litStreets_L4 n0 fu v7 v8 M
def f_X3_litStreets (n0 : Nat) (M : Mem) : Option (Int32) :=
  (f_X3_litStreets_L4 n0 FU (0 : Int32) (0 : Int32) M).bind fun t9 =>
  some t9
set_option maxHeartbeats 1000000 in
set_option maxRecDepth 20000 in
theorem t_X3_litStreets_L4 {g : GG} {d : Nat} {P : PT} {res : Option RS} (hd : 4 ≤ d) {n0 : Nat} (hn0 : isN n0) (hP : IsM g iX3_litStreets d res P) : ∀ (fu : Nat) (l1 : Int32) (l2 : Int32) (M : Mem) (t : Int32), f_X3_litStreets_L4 n0 fu l1 l2 M = some t → P 35 [none, some (.int t), none] [] LAY M → P 4 [some (.ref n0), some (.int l1), some (.int l2)] [] LAY M := by
  have hd1 : 1 ≤ d := by omega
  intro fu
  induction fu with
  | zero => intro l1 l2 M t hf; simp [f_X3_litStreets_L4] at hf
  | succ fu ih =>
    intro l1 l2 M t hf hx
    rw [f_X3_litStreets_L4] at hf
    refine x_iload_n hP dX3_litStreets_4 rfl ?_
    refine x_aload_n hP dX3_litStreets_5 rfl ?_
    obtain ⟨t1, ht1, hrt1, hf⟩ := b_rT hf
    refine x_getM hP fX3_30 (layN hn0) hrt1 dX3_litStreets_6 ?_
    refine x_getI hP fX3_103 (layT ht1) dX3_litStreets_9 ?_
    refine x_icmp_ge hP dX3_litStreets_12 (tgt := 35) (by decide) (fun c2 => ?_) (fun c2 => ?_)
    · replace hf := p_t c2 hf
      refine x_drop hP [none, some (.int l1), none] (And.intro rfl trivial) ?_
      cases hf
      exact hx
    · replace hf := p_f c2 hf
      refine x_aload_n hP dX3_litStreets_15 rfl ?_
      refine x_iload_n hP dX3_litStreets_16 rfl ?_
      obtain ⟨v4, hc3, hf⟩ := b_bd hf
      refine y_cvi hP oX3_isLit lX3_106 [.int l2] [] rfl rfl rfl (layN hn0) dX3_litStreets_17 (t_X3_isLit (d := d - 1) (by omega) hn0 hc3) (by omega) ?_
      refine x_if_eq hP dX3_litStreets_20 (tgt := 29) (by decide) (fun c5 => ?_) (fun c5 => ?_)
      · replace hf := p_t c5 hf
        obtain ⟨v6, hv6, hf⟩ := b_lt hf
        refine x_iinc hP (v := v6) (ls2 := [some (.ref n0), some (.int l1), some (.int v6)]) dX3_litStreets_29 rfl (by rw [hv6]; rfl) rfl rfl ?_
        refine x_goto hP dX3_litStreets_32 (tgt := 4) (by decide) ?_
        refine x_drop hP [some (.ref n0), some (.int l1), some (.int v6)] (And.intro rfl (And.intro rfl (And.intro rfl trivial))) ?_
        exact ih _ _ _ _ hf hx
      · replace hf := p_f c5 hf
        refine x_iload_n hP dX3_litStreets_23 rfl ?_
        refine x_iconst hP dX3_litStreets_24 (v := 1) rfl ?_
        refine x_iload_n hP dX3_litStreets_25 rfl ?_
        refine x_ishl hP dX3_litStreets_26 ?_
        refine x_ior hP dX3_litStreets_27 ?_
        obtain ⟨v7, hv7, hf⟩ := b_lt hf
        refine y_nmI hv7 ?_
        refine x_istore_n hP (ls2 := [some (.ref n0), some (.int v7), some (.int l2)]) dX3_litStreets_28 rfl rfl rfl ?_
        obtain ⟨v8, hv8, hf⟩ := b_lt hf
        refine x_iinc hP (v := v8) (ls2 := [some (.ref n0), some (.int v7), some (.int v8)]) dX3_litStreets_29 rfl (by rw [hv8]; rfl) rfl rfl ?_
        refine x_goto hP dX3_litStreets_32 (tgt := 4) (by decide) ?_
        refine x_drop hP [some (.ref n0), some (.int v7), some (.int v8)] (And.intro rfl (And.intro rfl (And.intro rfl trivial))) ?_
        exact ih _ _ _ _ hf hx
set_option maxHeartbeats 1000000 in
set_option maxRecDepth 20000 in
theorem t_X3_litStreets {g : GG} {d : Nat} (hd : 4 ≤ d) {n0 : Nat} (hn0 : isN n0) {M : Mem} {r : Int32} (hf : f_X3_litStreets n0 M = some r) : ExM g d iX3_litStreets [.ref n0] LAY M (some (.int r), LAY, M) := by
  have hd1 : 1 ≤ d := by omega
  refine ExM.main pnX3 rfl (ls := [some (.ref n0), none, none]) rfl ?_
  intro P hP
  rw [f_X3_litStreets] at hf
  refine x_iconst hP dX3_litStreets_0 (v := 0) rfl ?_
  refine x_istore_n hP (ls2 := [some (.ref n0), some (.int (0 : Int32)), none]) dX3_litStreets_1 rfl rfl rfl ?_
  refine x_iconst hP dX3_litStreets_2 (v := 0) rfl ?_
  refine x_istore_n hP (ls2 := [some (.ref n0), some (.int (0 : Int32)), some (.int (0 : Int32))]) dX3_litStreets_3 rfl rfl rfl ?_
  refine x_drop hP [some (.ref n0), some (.int (0 : Int32)), some (.int (0 : Int32))] (And.intro rfl (And.intro rfl (And.intro rfl trivial))) ?_
  obtain ⟨t9, hl10, hf⟩ := b_bd hf
  refine t_X3_litStreets_L4 hd hn0 hP _ _ _ _ _ hl10 ?_
  refine x_iload_n hP dX3_litStreets_35 rfl ?_
  cases hf
  exact x_iret hP rfl dX3_litStreets_36
def f_X3_needsOfAll_L4 (n0 : Nat) : Nat → Int32 → Int32 → Mem → Option (Int32)
  | 0, _, _, _ => none
  | fu + 1, l1, l2, M =>
    (rT M n0 0).bind fun t1 =>
    if M.1 t1 11 ≤ l2 then
      some l1
    else
      (f_X3_needsOf n0 l2 M).bind fun v4 =>
      lt (l1 + v4 : Int32) fun v5 =>
      lt (l2 + 1 : Int32) fun v6 =>
      f_X3_needsOfAll_L4 n0 fu v5 v6 M
def f_X3_needsOfAll (n0 : Nat) (M : Mem) : Option (Int32) :=
  (f_X3_needsOfAll_L4 n0 FU (0 : Int32) (0 : Int32) M).bind fun t7 =>
  some t7
set_option maxHeartbeats 1000000 in
set_option maxRecDepth 20000 in
theorem t_X3_needsOfAll_L4 {g : GG} {d : Nat} {P : PT} {res : Option RS} (hd : 3 ≤ d) {n0 : Nat} (hn0 : isN n0) (hP : IsM g iX3_needsOfAll d res P) : ∀ (fu : Nat) (l1 : Int32) (l2 : Int32) (M : Mem) (t : Int32), f_X3_needsOfAll_L4 n0 fu l1 l2 M = some t → P 29 [none, some (.int t), none] [] LAY M → P 4 [some (.ref n0), some (.int l1), some (.int l2)] [] LAY M := by
  have hd1 : 1 ≤ d := by omega
  intro fu
  induction fu with
  | zero => intro l1 l2 M t hf; simp [f_X3_needsOfAll_L4] at hf
  | succ fu ih =>
    intro l1 l2 M t hf hx
    rw [f_X3_needsOfAll_L4] at hf
    refine x_iload_n hP dX3_needsOfAll_4 rfl ?_
    refine x_aload_n hP dX3_needsOfAll_5 rfl ?_
    obtain ⟨t1, ht1, hrt1, hf⟩ := b_rT hf
    refine x_getM hP fX3_30 (layN hn0) hrt1 dX3_needsOfAll_6 ?_
    refine x_getI hP fX3_103 (layT ht1) dX3_needsOfAll_9 ?_
    refine x_icmp_ge hP dX3_needsOfAll_12 (tgt := 29) (by decide) (fun c2 => ?_) (fun c2 => ?_)
    · replace hf := p_t c2 hf
      refine x_drop hP [none, some (.int l1), none] (And.intro rfl trivial) ?_
      cases hf
      exact hx
    · replace hf := p_f c2 hf
      refine x_iload_n hP dX3_needsOfAll_15 rfl ?_
      refine x_aload_n hP dX3_needsOfAll_16 rfl ?_
      refine x_iload_n hP dX3_needsOfAll_17 rfl ?_
      obtain ⟨v4, hc3, hf⟩ := b_bd hf
      refine y_cvi hP oX3_needsOf lX3_100 [.int l2] [.int l1] rfl rfl rfl (layN hn0) dX3_needsOfAll_18 (t_X3_needsOf (d := d - 1) (by omega) hn0 hc3) (by omega) ?_
      refine x_iadd hP dX3_needsOfAll_21 ?_
      obtain ⟨v5, hv5, hf⟩ := b_lt hf
      refine y_nmI hv5 ?_
      refine x_istore_n hP (ls2 := [some (.ref n0), some (.int v5), some (.int l2)]) dX3_needsOfAll_22 rfl rfl rfl ?_
      obtain ⟨v6, hv6, hf⟩ := b_lt hf
      refine x_iinc hP (v := v6) (ls2 := [some (.ref n0), some (.int v5), some (.int v6)]) dX3_needsOfAll_23 rfl (by rw [hv6]; rfl) rfl rfl ?_
      refine x_goto hP dX3_needsOfAll_26 (tgt := 4) (by decide) ?_
      refine x_drop hP [some (.ref n0), some (.int v5), some (.int v6)] (And.intro rfl (And.intro rfl (And.intro rfl trivial))) ?_
      exact ih _ _ _ _ hf hx
set_option maxHeartbeats 1000000 in
set_option maxRecDepth 20000 in
theorem t_X3_needsOfAll {g : GG} {d : Nat} (hd : 3 ≤ d) {n0 : Nat} (hn0 : isN n0) {M : Mem} {r : Int32} (hf : f_X3_needsOfAll n0 M = some r) : ExM g d iX3_needsOfAll [.ref n0] LAY M (some (.int r), LAY, M) := by
  have hd1 : 1 ≤ d := by omega
  refine ExM.main pnX3 rfl (ls := [some (.ref n0), none, none]) rfl ?_
  intro P hP
  rw [f_X3_needsOfAll] at hf
  refine x_iconst hP dX3_needsOfAll_0 (v := 0) rfl ?_
  refine x_istore_n hP (ls2 := [some (.ref n0), some (.int (0 : Int32)), none]) dX3_needsOfAll_1 rfl rfl rfl ?_
  refine x_iconst hP dX3_needsOfAll_2 (v := 0) rfl ?_
  refine x_istore_n hP (ls2 := [some (.ref n0), some (.int (0 : Int32)), some (.int (0 : Int32))]) dX3_needsOfAll_3 rfl rfl rfl ?_
  refine x_drop hP [some (.ref n0), some (.int (0 : Int32)), some (.int (0 : Int32))] (And.intro rfl (And.intro rfl (And.intro rfl trivial))) ?_
  obtain ⟨t7, hl8, hf⟩ := b_bd hf
  refine t_X3_needsOfAll_L4 hd hn0 hP _ _ _ _ _ hl8 ?_
  refine x_iload_n hP dX3_needsOfAll_29 rfl ?_
  cases hf
  exact x_iret hP rfl dX3_needsOfAll_30

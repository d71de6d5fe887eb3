def f_X3_lightAt_L4 (n0 : Nat) : Nat → Int32 → Int32 → Int32 → Mem → Option (Int32)
  | 0, _, _, _, _ => none
  | fu + 1, l1, l2, l3, M =>
    (rT M n0 0).bind fun t1 =>
    if M.1 t1 12 ≤ l3 then
      some l2
    else
      (ag M (n0 + 1) 6 l3).bind fun v3 =>
      if v3 = l1 then
        (ag M (n0 + 2) 6 l3).bind fun v5 =>
        lt (l2 + v5 : Int32) fun v6 =>
        lt (l3 + 1 : Int32) fun v7 =>
        f_X3_lightAt_L4 n0 fu l1 v6 v7 M
      else
        lt (l3 + 1 : Int32) fun v8 =>
        f_X3_lightAt_L4 n0 fu l1 l2 v8 M
def f_X3_lightAt (n0 : Nat) (x1 : Int32) (M : Mem) : Option (Int32) :=
  (f_X3_lightAt_L4 n0 FU x1 (0 : Int32) (0 : Int32) M).bind fun t9 =>
  some t9
set_option maxHeartbeats 1000000 in
set_option maxRecDepth 20000 in
theorem t_X3_lightAt_L4 {g : GG} {d : Nat} {P : PT} {res : Option RS} (hd : 1 ≤ d) {n0 : Nat} (hn0 : isN n0) (hP : IsM g iX3_lightAt d res P) : ∀ (fu : Nat) (l1 : Int32) (l2 : Int32) (l3 : Int32) (M : Mem) (t : Int32), f_X3_lightAt_L4 n0 fu l1 l2 l3 M = some t → P 40 [none, none, some (.int t), none] [] LAY M → P 4 [some (.ref n0), some (.int l1), some (.int l2), some (.int l3)] [] LAY M := by
  have hd1 : 1 ≤ d := by omega
  intro fu
  induction fu with
  | zero => intro l1 l2 l3 M t hf; simp [f_X3_lightAt_L4] at hf
  | succ fu ih =>
    intro l1 l2 l3 M t hf hx
    rw [f_X3_lightAt_L4] at hf
    refine x_iload_n hP dX3_lightAt_4 rfl ?_
    refine x_aload_n hP dX3_lightAt_5 rfl ?_
    obtain ⟨t1, ht1, hrt1, hf⟩ := b_rT hf
    refine x_getM hP fX3_30 (layN hn0) hrt1 dX3_lightAt_6 ?_
    refine x_getI hP fX3_71 (layT ht1) dX3_lightAt_9 ?_
    refine x_icmp_ge hP dX3_lightAt_12 (tgt := 40) (by decide) (fun c2 => ?_) (fun c2 => ?_)
    · replace hf := p_t c2 hf
      cases hf
      refine x_drop hP [none, none, some (.int l2), none] (And.intro rfl trivial) ?_
      exact hx
    · replace hf := p_f c2 hf
      refine x_aload_n hP dX3_lightAt_15 rfl ?_
      refine x_getA hP fX3_9 (layN hn0) (r := n0 + 1) rfl dX3_lightAt_16 ?_
      refine x_iload_n hP dX3_lightAt_19 rfl ?_
      obtain ⟨v3, hiv3, hv3, hf⟩ := b_ag hf
      refine y_ald hP (layN_1 hn0) hiv3 hv3 dX3_lightAt_20 ?_
      refine x_iload_n hP dX3_lightAt_21 rfl ?_
      refine x_icmp_ne hP dX3_lightAt_22 (tgt := 34) (by decide) (fun c4 => ?_) (fun c4 => ?_)
      · replace hf := p_f c4 hf
        obtain ⟨v8, hv8, hf⟩ := b_lt hf
        refine x_iinc hP (v := v8) (ls2 := [some (.ref n0), some (.int l1), some (.int l2), some (.int v8)]) dX3_lightAt_34 rfl (by rw [hv8]; rfl) rfl rfl ?_
        refine x_goto hP dX3_lightAt_37 (tgt := 4) (by decide) ?_
        refine x_drop hP [some (.ref n0), some (.int l1), some (.int l2), some (.int v8)] (And.intro rfl (And.intro rfl (And.intro rfl (And.intro rfl trivial)))) ?_
        exact ih _ _ _ _ _ hf hx
      · replace hf := p_t c4 hf
        refine x_iload_n hP dX3_lightAt_25 rfl ?_
        refine x_aload_n hP dX3_lightAt_26 rfl ?_
        refine x_getA hP fX3_15 (layN hn0) (r := n0 + 2) rfl dX3_lightAt_27 ?_
        refine x_iload_n hP dX3_lightAt_30 rfl ?_
        obtain ⟨v5, hiv5, hv5, hf⟩ := b_ag hf
        refine y_ald hP (layN_2 hn0) hiv5 hv5 dX3_lightAt_31 ?_
        refine x_iadd hP dX3_lightAt_32 ?_
        obtain ⟨v6, hv6, hf⟩ := b_lt hf
        refine y_nmI hv6 ?_
        refine x_istore_n hP (ls2 := [some (.ref n0), some (.int l1), some (.int v6), some (.int l3)]) dX3_lightAt_33 rfl rfl rfl ?_
        obtain ⟨v7, hv7, hf⟩ := b_lt hf
        refine x_iinc hP (v := v7) (ls2 := [some (.ref n0), some (.int l1), some (.int v6), some (.int v7)]) dX3_lightAt_34 rfl (by rw [hv7]; rfl) rfl rfl ?_
        refine x_goto hP dX3_lightAt_37 (tgt := 4) (by decide) ?_
        refine x_drop hP [some (.ref n0), some (.int l1), some (.int v6), some (.int v7)] (And.intro rfl (And.intro rfl (And.intro rfl (And.intro rfl trivial)))) ?_
        exact ih _ _ _ _ _ hf hx
set_option maxHeartbeats 1000000 in
set_option maxRecDepth 20000 in
theorem t_X3_lightAt {g : GG} {d : Nat} (hd : 1 ≤ d) {n0 : Nat} (hn0 : isN n0) {x1 : Int32} {M : Mem} {r : Int32} (hf : f_X3_lightAt n0 x1 M = some r) : ExM g d iX3_lightAt [.ref n0, .int x1] LAY M (some (.int r), LAY, M) := by
  have hd1 : 1 ≤ d := by omega
  refine ExM.main pnX3 rfl (ls := [some (.ref n0), some (.int x1), none, none]) rfl ?_
  intro P hP
  rw [f_X3_lightAt] at hf
  refine x_iconst hP dX3_lightAt_0 (v := 0) rfl ?_
  refine x_istore_n hP (ls2 := [some (.ref n0), some (.int x1), some (.int (0 : Int32)), none]) dX3_lightAt_1 rfl rfl rfl ?_
  refine x_iconst hP dX3_lightAt_2 (v := 0) rfl ?_
  refine x_istore_n hP (ls2 := [some (.ref n0), some (.int x1), some (.int (0 : Int32)), some (.int (0 : Int32))]) dX3_lightAt_3 rfl rfl rfl ?_
  refine x_drop hP [some (.ref n0), some (.int x1), some (.int (0 : Int32)), some (.int (0 : Int32))] (And.intro rfl (And.intro rfl (And.intro rfl (And.intro rfl trivial)))) ?_
  obtain ⟨t9, hl10, hf⟩ := b_bd hf
  refine t_X3_lightAt_L4 hd hn0 hP _ _ _ _ _ _ hl10 ?_
  refine x_iload_n hP dX3_lightAt_40 rfl ?_
  cases hf
  exact x_iret hP rfl dX3_lightAt_41
def f_X3_isHome (n0 : Nat) (x1 : Int32) (M : Mem) : Option (Int32) :=
  if ((M.1 n0 3) >>> (x1 &&& 31)) &&& (1 : Int32) = (1 : Int32) then
    some (1 : Int32)
  else
    some (0 : Int32)
set_option maxHeartbeats 1000000 in
set_option maxRecDepth 20000 in
theorem t_X3_isHome {g : GG} {d : Nat} (hd : 1 ≤ d) {n0 : Nat} (hn0 : isN n0) {x1 : Int32} {M : Mem} {r : Int32} (hf : f_X3_isHome n0 x1 M = some r) : ExM g d iX3_isHome [.ref n0, .int x1] LAY M (some (.int r), LAY, M) := by
  have hd1 : 1 ≤ d := by omega
  refine ExM.main pnX3 rfl (ls := [some (.ref n0), some (.int x1)]) rfl ?_
  intro P hP
  rw [f_X3_isHome] at hf
  refine x_aload_n hP dX3_isHome_0 rfl ?_
  refine x_getI hP fX3_44 (layN hn0) dX3_isHome_1 ?_
  refine x_iload_n hP dX3_isHome_4 rfl ?_
  refine x_ishr hP dX3_isHome_5 ?_
  refine x_iconst hP dX3_isHome_6 (v := 1) rfl ?_
  refine x_iand hP dX3_isHome_7 ?_
  refine x_iconst hP dX3_isHome_8 (v := 1) rfl ?_
  refine x_icmp_ne hP dX3_isHome_9 (tgt := 16) (by decide) (fun c1 => ?_) (fun c1 => ?_)
  · replace hf := p_f c1 hf
    refine x_iconst hP dX3_isHome_16 (v := 0) rfl ?_
    cases hf
    exact x_zret hP rfl (Or.inl rfl) dX3_isHome_17
  · replace hf := p_t c1 hf
    refine x_iconst hP dX3_isHome_12 (v := 1) rfl ?_
    refine x_goto hP dX3_isHome_13 (tgt := 17) (by decide) ?_
    cases hf
    exact x_zret hP rfl (Or.inr rfl) dX3_isHome_17

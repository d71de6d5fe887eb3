-- by program: wip/whole/gen/build_parts.py
def f_X12_bits_L4 : Nat → Int32 → Int32 → Int32 → Option (Int32)
  | 0, _, _, _ => none
  | fu + 1, l0, l1, l2 =>
    if (10 : Int32) ≤ l2 then
      some l1
    else
      lt (l1 + ((l0 >>> (l2 &&& 31)) &&& (1 : Int32)) : Int32) fun v2 =>
      lt (l2 + 1 : Int32) fun v3 =>
      f_X12_bits_L4 fu l0 v2 v3
def f_X12_bits (x0 : Int32) : Option (Int32) :=
  (f_X12_bits_L4 FU x0 (0 : Int32) (0 : Int32)).bind fun t4 =>
  some t4
set_option maxHeartbeats 1000000 in
set_option maxRecDepth 20000 in
theorem t_X12_bits_L4 {g : GG} {L : List Lay} {d : Nat} {P : PT} {res : Option RS} (hd : 1 ≤ d)  (hP : IsW g iX12_bits d L.length (szL L) res P) {M : Mem} : ∀ (fu : Nat) (l0 : Int32) (l1 : Int32) (l2 : Int32) (t : Int32), f_X12_bits_L4 fu l0 l1 l2 = some t → P 24 [none, some (.int t), none] [] L M → P 4 [some (.int l0), some (.int l1), some (.int l2)] [] L M := by
  have hd1 : 1 ≤ d := by omega
  intro fu
  induction fu with
  | zero => intro l0 l1 l2 t hf; simp [f_X12_bits_L4] at hf
  | succ fu ih =>
    intro l0 l1 l2 t hf hx
    rw [f_X12_bits_L4] at hf
    refine x_iload_n hP dX12_bits_4 rfl ?_
    refine x_bipush hP dX12_bits_5 (v := 10) rfl ?_
    refine x_icmp_ge hP dX12_bits_7 (tgt := 24) (by decide) (fun c1 => ?_) (fun c1 => ?_)
    · replace hf := p_t c1 hf
      refine x_drop hP [none, some (.int l1), none] (And.intro rfl trivial) ?_
      cases hf
      exact hx
    · replace hf := p_f c1 hf
      refine x_iload_n hP dX12_bits_10 rfl ?_
      refine x_iload_n hP dX12_bits_11 rfl ?_
      refine x_iload_n hP dX12_bits_12 rfl ?_
      refine x_ishr hP dX12_bits_13 ?_
      refine x_iconst hP dX12_bits_14 (v := 1) rfl ?_
      refine x_iand hP dX12_bits_15 ?_
      refine x_iadd hP dX12_bits_16 ?_
      obtain ⟨v2, hv2, hf⟩ := b_lt hf
      refine y_nmI hv2 ?_
      refine x_istore_n hP (ls2 := [some (.int l0), some (.int v2), some (.int l2)]) dX12_bits_17 rfl rfl rfl ?_
      obtain ⟨v3, hv3, hf⟩ := b_lt hf
      refine x_iinc hP (v := v3) (ls2 := [some (.int l0), some (.int v2), some (.int v3)]) dX12_bits_18 rfl (by rw [hv3]; rfl) rfl rfl ?_
      refine x_goto hP dX12_bits_21 (tgt := 4) (by decide) ?_
      refine x_drop hP [some (.int l0), some (.int v2), some (.int v3)] (And.intro rfl (And.intro rfl (And.intro rfl trivial))) ?_
      exact ih _ _ _ _ hf hx
set_option maxHeartbeats 1000000 in
set_option maxRecDepth 20000 in
theorem t_X12_bits {g : GG} {L : List Lay} {d : Nat} (hd : 1 ≤ d) {x0 : Int32} {M : Mem} {r : Int32} (hf : f_X12_bits x0 = some r) : ExM g d iX12_bits [.int x0] L M (some (.int r), L, M) := by
  have hd1 : 1 ≤ d := by omega
  refine ExM.main pnX12 rfl (ls := [some (.int x0), none, none]) rfl ?_
  intro P hP
  rw [f_X12_bits] at hf
  refine x_iconst hP dX12_bits_0 (v := 0) rfl ?_
  refine x_istore_n hP (ls2 := [some (.int x0), some (.int (0 : Int32)), none]) dX12_bits_1 rfl rfl rfl ?_
  refine x_iconst hP dX12_bits_2 (v := 0) rfl ?_
  refine x_istore_n hP (ls2 := [some (.int x0), some (.int (0 : Int32)), some (.int (0 : Int32))]) dX12_bits_3 rfl rfl rfl ?_
  refine x_drop hP [some (.int x0), some (.int (0 : Int32)), some (.int (0 : Int32))] (And.intro rfl (And.intro rfl (And.intro rfl trivial))) ?_
  obtain ⟨t4, hl5, hf⟩ := b_bd hf
  refine t_X12_bits_L4 hd hP _ _ _ _ _ hl5 ?_
  refine x_iload_n hP dX12_bits_24 rfl ?_
  cases hf
  exact x_iret hP rfl dX12_bits_25
def f_X12_isCorner (x1 : Int32) (M : Mem) : Option (Int32) :=
  (ag M 77 2 (M.1 67 18)).bind fun v1 =>
  (f_X12_in x1 (0 : Int32) (v1 - (1 : Int32))).bind fun v3 =>
  zc v3 (some v3)
set_option maxHeartbeats 1000000 in
set_option maxRecDepth 20000 in
theorem t_X12_isCorner {g : GG} {d : Nat} (hd : 2 ≤ d) {x1 : Int32} {M : Mem} {r : Int32} (hf : f_X12_isCorner x1 M = some r) : ExM g d iX12_isCorner [.ref 67, .int x1] LAY M (some (.int r), LAY, M) := by
  have hd1 : 1 ≤ d := by omega
  refine ExM.main pnX12 rfl (ls := [some (.ref 67), some (.int x1)]) rfl ?_
  intro P hP
  rw [f_X12_isCorner] at hf
  refine x_iload_n hP dX12_isCorner_0 rfl ?_
  refine x_iconst hP dX12_isCorner_1 (v := 0) rfl ?_
  refine x_aload_n hP dX12_isCorner_2 rfl ?_
  refine x_getA hP fX12_46 lay67 (r := 77) rfl dX12_isCorner_3 ?_
  refine x_aload_n hP dX12_isCorner_6 rfl ?_
  refine x_getI hP fX12_251 lay67 dX12_isCorner_7 ?_
  obtain ⟨v1, hiv1, hv1, hf⟩ := b_ag hf
  refine y_ald hP lay77 hiv1 hv1 dX12_isCorner_10 ?_
  refine x_iconst hP dX12_isCorner_11 (v := 1) rfl ?_
  refine x_isub hP dX12_isCorner_12 ?_
  obtain ⟨v3, hc2, hf⟩ := b_bd hf
  refine y_csi hP oX12_in lX12_334 [.int x1, .int (0 : Int32), .int (v1 - (1 : Int32))] [] rfl rfl rfl dX12_isCorner_13 (t_X12_in (d := d - 1) (by omega) hc2) (by omega) ?_
  obtain ⟨hz4, hf⟩ := b_zc hf
  cases hf
  exact x_zret hP rfl hz4 dX12_isCorner_16
def f_X12_isStreet (x1 : Int32) (M : Mem) : Option (Int32) :=
  (ag M 78 2 (M.1 67 18)).bind fun v1 =>
  (f_X12_in x1 (0 : Int32) (v1 - (1 : Int32))).bind fun v3 =>
  zc v3 (some v3)
set_option maxHeartbeats 1000000 in
set_option maxRecDepth 20000 in
theorem t_X12_isStreet {g : GG} {d : Nat} (hd : 2 ≤ d) {x1 : Int32} {M : Mem} {r : Int32} (hf : f_X12_isStreet x1 M = some r) : ExM g d iX12_isStreet [.ref 67, .int x1] LAY M (some (.int r), LAY, M) := by
  have hd1 : 1 ≤ d := by omega
  refine ExM.main pnX12 rfl (ls := [some (.ref 67), some (.int x1)]) rfl ?_
  intro P hP
  rw [f_X12_isStreet] at hf
  refine x_iload_n hP dX12_isStreet_0 rfl ?_
  refine x_iconst hP dX12_isStreet_1 (v := 0) rfl ?_
  refine x_aload_n hP dX12_isStreet_2 rfl ?_
  refine x_getA hP fX12_49 lay67 (r := 78) rfl dX12_isStreet_3 ?_
  refine x_aload_n hP dX12_isStreet_6 rfl ?_
  refine x_getI hP fX12_251 lay67 dX12_isStreet_7 ?_
  obtain ⟨v1, hiv1, hv1, hf⟩ := b_ag hf
  refine y_ald hP lay78 hiv1 hv1 dX12_isStreet_10 ?_
  refine x_iconst hP dX12_isStreet_11 (v := 1) rfl ?_
  refine x_isub hP dX12_isStreet_12 ?_
  obtain ⟨v3, hc2, hf⟩ := b_bd hf
  refine y_csi hP oX12_in lX12_334 [.int x1, .int (0 : Int32), .int (v1 - (1 : Int32))] [] rfl rfl rfl dX12_isStreet_13 (t_X12_in (d := d - 1) (by omega) hc2) (by omega) ?_
  obtain ⟨hz4, hf⟩ := b_zc hf
  cases hf
  exact x_zret hP rfl hz4 dX12_isStreet_16
def f_X12_isYoung (x1 : Int32) (M : Mem) : Option (Int32) :=
  (ag M 82 2 (M.1 67 18)).bind fun v1 =>
  (f_X12_in x1 (0 : Int32) (v1 - (1 : Int32))).bind fun v3 =>
  zc v3 (some v3)
set_option maxHeartbeats 1000000 in
set_option maxRecDepth 20000 in
theorem t_X12_isYoung {g : GG} {d : Nat} (hd : 2 ≤ d) {x1 : Int32} {M : Mem} {r : Int32} (hf : f_X12_isYoung x1 M = some r) : ExM g d iX12_isYoung [.ref 67, .int x1] LAY M (some (.int r), LAY, M) := by
  have hd1 : 1 ≤ d := by omega
  refine ExM.main pnX12 rfl (ls := [some (.ref 67), some (.int x1)]) rfl ?_
  intro P hP
  rw [f_X12_isYoung] at hf
  refine x_iload_n hP dX12_isYoung_0 rfl ?_
  refine x_iconst hP dX12_isYoung_1 (v := 0) rfl ?_
  refine x_aload_n hP dX12_isYoung_2 rfl ?_
  refine x_getA hP fX12_61 lay67 (r := 82) rfl dX12_isYoung_3 ?_
  refine x_aload_n hP dX12_isYoung_6 rfl ?_
  refine x_getI hP fX12_251 lay67 dX12_isYoung_7 ?_
  obtain ⟨v1, hiv1, hv1, hf⟩ := b_ag hf
  refine y_ald hP lay82 hiv1 hv1 dX12_isYoung_10 ?_
  refine x_iconst hP dX12_isYoung_11 (v := 1) rfl ?_
  refine x_isub hP dX12_isYoung_12 ?_
  obtain ⟨v3, hc2, hf⟩ := b_bd hf
  refine y_csi hP oX12_in lX12_334 [.int x1, .int (0 : Int32), .int (v1 - (1 : Int32))] [] rfl rfl rfl dX12_isYoung_13 (t_X12_in (d := d - 1) (by omega) hc2) (by omega) ?_
  obtain ⟨hz4, hf⟩ := b_zc hf
  cases hf
  exact x_zret hP rfl hz4 dX12_isYoung_16
def f_X12_isWord (x1 : Int32) (M : Mem) : Option (Int32) :=
  (ag M 86 2 (M.1 67 18)).bind fun v1 =>
  (f_X12_in x1 (0 : Int32) (v1 - (1 : Int32))).bind fun v3 =>
  zc v3 (some v3)
set_option maxHeartbeats 1000000 in
set_option maxRecDepth 20000 in
theorem t_X12_isWord {g : GG} {d : Nat} (hd : 2 ≤ d) {x1 : Int32} {M : Mem} {r : Int32} (hf : f_X12_isWord x1 M = some r) : ExM g d iX12_isWord [.ref 67, .int x1] LAY M (some (.int r), LAY, M) := by
  have hd1 : 1 ≤ d := by omega
  refine ExM.main pnX12 rfl (ls := [some (.ref 67), some (.int x1)]) rfl ?_
  intro P hP
  rw [f_X12_isWord] at hf
  refine x_iload_n hP dX12_isWord_0 rfl ?_
  refine x_iconst hP dX12_isWord_1 (v := 0) rfl ?_
  refine x_aload_n hP dX12_isWord_2 rfl ?_
  refine x_getA hP fX12_73 lay67 (r := 86) rfl dX12_isWord_3 ?_
  refine x_aload_n hP dX12_isWord_6 rfl ?_
  refine x_getI hP fX12_251 lay67 dX12_isWord_7 ?_
  obtain ⟨v1, hiv1, hv1, hf⟩ := b_ag hf
  refine y_ald hP lay86 hiv1 hv1 dX12_isWord_10 ?_
  refine x_iconst hP dX12_isWord_11 (v := 1) rfl ?_
  refine x_isub hP dX12_isWord_12 ?_
  obtain ⟨v3, hc2, hf⟩ := b_bd hf
  refine y_csi hP oX12_in lX12_334 [.int x1, .int (0 : Int32), .int (v1 - (1 : Int32))] [] rfl rfl rfl dX12_isWord_13 (t_X12_in (d := d - 1) (by omega) hc2) (by omega) ?_
  obtain ⟨hz4, hf⟩ := b_zc hf
  cases hf
  exact x_zret hP rfl hz4 dX12_isWord_16
def f_X12_isOut (x1 : Int32) (M : Mem) : Option (Int32) :=
  (f_X12_isYoung x1 M).bind fun v2 =>
  if v2 = 0 then
    some (0 : Int32)
  else
    (ag M 103 48 ((12 : Int32) + x1)).bind fun v4 =>
    if v4 = 0 then
      some (1 : Int32)
    else
      some (0 : Int32)
set_option maxHeartbeats 1000000 in
set_option maxRecDepth 20000 in
theorem t_X12_isOut {g : GG} {d : Nat} (hd : 3 ≤ d) {x1 : Int32} {M : Mem} {r : Int32} (hf : f_X12_isOut x1 M = some r) : ExM g d iX12_isOut [.ref 67, .int x1] LAY M (some (.int r), LAY, M) := by
  have hd1 : 1 ≤ d := by omega
  refine ExM.main pnX12 rfl (ls := [some (.ref 67), some (.int x1)]) rfl ?_
  intro P hP
  rw [f_X12_isOut] at hf
  refine x_aload_n hP dX12_isOut_0 rfl ?_
  refine x_iload_n hP dX12_isOut_1 rfl ?_
  obtain ⟨v2, hc1, hf⟩ := b_bd hf
  refine y_cvi hP oX12_isYoung lX12_338 [.int x1] [] rfl rfl rfl lay67 dX12_isOut_2 (t_X12_isYoung (d := d - 1) (by omega) hc1) (by omega) ?_
  refine x_if_eq hP dX12_isOut_5 (tgt := 24) (by decide) (fun c3 => ?_) (fun c3 => ?_)
  · replace hf := p_t c3 hf
    refine x_iconst hP dX12_isOut_24 (v := 0) rfl ?_
    cases hf
    exact x_zret hP rfl (Or.inl rfl) dX12_isOut_25
  · replace hf := p_f c3 hf
    refine x_aload_n hP dX12_isOut_8 rfl ?_
    refine x_getA hP fX12_125 lay67 (r := 103) rfl dX12_isOut_9 ?_
    refine x_bipush hP dX12_isOut_12 (v := 12) rfl ?_
    refine x_iload_n hP dX12_isOut_14 rfl ?_
    refine x_iadd hP dX12_isOut_15 ?_
    obtain ⟨v4, hiv4, hv4, hf⟩ := b_ag hf
    refine y_ald hP lay103 hiv4 hv4 dX12_isOut_16 ?_
    refine x_if_ne hP dX12_isOut_17 (tgt := 24) (by decide) (fun c5 => ?_) (fun c5 => ?_)
    · replace hf := p_f c5 hf
      refine x_iconst hP dX12_isOut_24 (v := 0) rfl ?_
      cases hf
      exact x_zret hP rfl (Or.inl rfl) dX12_isOut_25
    · replace hf := p_t c5 hf
      refine x_iconst hP dX12_isOut_20 (v := 1) rfl ?_
      refine x_goto hP dX12_isOut_21 (tgt := 25) (by decide) ?_
      cases hf
      exact x_zret hP rfl (Or.inr rfl) dX12_isOut_25
def f_X12_copies_L2 : Nat → Int32 → Mem → Option (Mem)
  | 0, _, _ => none
  | fu + 1, l1, M =>
    if (48 : Int32) ≤ l1 then
      some M
    else
      (ag M 103 48 l1).bind fun v2 =>
      (pg M 104 48 l1 v2).bind fun M3 =>
      lt (l1 + 1 : Int32) fun v4 =>
      f_X12_copies_L2 fu v4 M3
def f_X12_copies (M : Mem) : Option (Mem) :=
  (f_X12_copies_L2 FU (0 : Int32) M).bind fun t5 =>
  (ag t5 90 2 (t5.1 67 18)).bind fun v7 =>
  lt (sI t5 67 55 v7) fun M8 =>
  lt (sI M8 67 56 (0 : Int32)) fun M9 =>
  some M9
set_option maxHeartbeats 1000000 in
set_option maxRecDepth 20000 in
theorem t_X12_copies_L2 {g : GG} {d : Nat} {P : PT} {res : Option RS} (hd : 1 ≤ d)  (hP : IsM g iX12_copies d res P) : ∀ (fu : Nat) (l1 : Int32) (M : Mem) (t : Mem), f_X12_copies_L2 fu l1 M = some t → P 26 [some (.ref 67), none] [] LAY t → P 2 [some (.ref 67), some (.int l1)] [] LAY M := by
  have hd1 : 1 ≤ d := by omega
  intro fu
  induction fu with
  | zero => intro l1 M t hf; simp [f_X12_copies_L2] at hf
  | succ fu ih =>
    intro l1 M t hf hx
    rw [f_X12_copies_L2] at hf
    refine x_iload_n hP dX12_copies_2 rfl ?_
    refine x_bipush hP dX12_copies_3 (v := 48) rfl ?_
    refine x_icmp_ge hP dX12_copies_5 (tgt := 26) (by decide) (fun c1 => ?_) (fun c1 => ?_)
    · replace hf := p_t c1 hf
      refine x_drop hP [some (.ref 67), none] (And.intro rfl trivial) ?_
      cases hf
      exact hx
    · replace hf := p_f c1 hf
      refine x_aload_n hP dX12_copies_8 rfl ?_
      refine x_getA hP fX12_128 lay67 (r := 104) rfl dX12_copies_9 ?_
      refine x_iload_n hP dX12_copies_12 rfl ?_
      refine x_aload_n hP dX12_copies_13 rfl ?_
      refine x_getA hP fX12_125 lay67 (r := 103) rfl dX12_copies_14 ?_
      refine x_iload_n hP dX12_copies_17 rfl ?_
      obtain ⟨v2, hiv2, hv2, hf⟩ := b_ag hf
      refine y_ald hP lay103 hiv2 hv2 dX12_copies_18 ?_
      obtain ⟨M3, hiM3, hM3, hf⟩ := b_pg hf
      refine y_ast hP lay104 hiM3 hM3 dX12_copies_19 ?_
      obtain ⟨v4, hv4, hf⟩ := b_lt hf
      refine x_iinc hP (v := v4) (ls2 := [some (.ref 67), some (.int v4)]) dX12_copies_20 rfl (by rw [hv4]; rfl) rfl rfl ?_
      refine x_goto hP dX12_copies_23 (tgt := 2) (by decide) ?_
      refine x_drop hP [some (.ref 67), some (.int v4)] (And.intro rfl (And.intro rfl trivial)) ?_
      exact ih _ _ _ hf hx
set_option maxHeartbeats 1000000 in
set_option maxRecDepth 20000 in
theorem t_X12_copies {g : GG} {d : Nat} (hd : 1 ≤ d) {M : Mem} {M' : Mem} (hf : f_X12_copies M = some M') : ExM g d iX12_copies [.ref 67] LAY M (none, LAY, M') := by
  have hd1 : 1 ≤ d := by omega
  refine ExM.main pnX12 rfl (ls := [some (.ref 67), none]) rfl ?_
  intro P hP
  rw [f_X12_copies] at hf
  refine x_iconst hP dX12_copies_0 (v := 0) rfl ?_
  refine x_istore_n hP (ls2 := [some (.ref 67), some (.int (0 : Int32))]) dX12_copies_1 rfl rfl rfl ?_
  refine x_drop hP [some (.ref 67), some (.int (0 : Int32))] (And.intro rfl (And.intro rfl trivial)) ?_
  obtain ⟨t5, hl6, hf⟩ := b_bd hf
  refine t_X12_copies_L2 hd hP _ _ _ _ hl6 ?_
  refine x_aload_n hP dX12_copies_26 rfl ?_
  refine x_aload_n hP dX12_copies_27 rfl ?_
  refine x_getA hP fX12_85 lay67 (r := 90) rfl dX12_copies_28 ?_
  refine x_aload_n hP dX12_copies_31 rfl ?_
  refine x_getI hP fX12_251 lay67 dX12_copies_32 ?_
  obtain ⟨v7, hiv7, hv7, hf⟩ := b_ag hf
  refine y_ald hP lay90 hiv7 hv7 dX12_copies_35 ?_
  obtain ⟨M8, hM8, hf⟩ := b_lt hf
  refine y_putI hP fX12_341 lay67 hM8 dX12_copies_36 ?_
  refine x_aload_n hP dX12_copies_39 rfl ?_
  refine x_iconst hP dX12_copies_40 (v := 0) rfl ?_
  obtain ⟨M9, hM9, hf⟩ := b_lt hf
  refine y_putZ hP fX12_344 (Or.inl rfl) lay67 hM9 dX12_copies_41 ?_
  cases hf
  exact x_vret hP rfl dX12_copies_44
def f_X12_copiesStill (M : Mem) : Option (Mem) :=
  (f_X12_copies M).bind fun M2 =>
  lt (sI M2 67 56 (1 : Int32)) fun M3 =>
  some M3
set_option maxHeartbeats 1000000 in
set_option maxRecDepth 20000 in
theorem t_X12_copiesStill {g : GG} {d : Nat} (hd : 2 ≤ d) {M : Mem} {M' : Mem} (hf : f_X12_copiesStill M = some M') : ExM g d iX12_copiesStill [.ref 67] LAY M (none, LAY, M') := by
  have hd1 : 1 ≤ d := by omega
  refine ExM.main pnX12 rfl (ls := [some (.ref 67)]) rfl ?_
  intro P hP
  rw [f_X12_copiesStill] at hf
  refine x_aload_n hP dX12_copiesStill_0 rfl ?_
  obtain ⟨M2, hc1, hf⟩ := b_bd hf
  refine y_cvv hP oX12_copies lX12_347 [] [] rfl rfl rfl lay67 dX12_copiesStill_1 (t_X12_copies (d := d - 1) (by omega) hc1) (by omega) ?_
  refine x_aload_n hP dX12_copiesStill_4 rfl ?_
  refine x_iconst hP dX12_copiesStill_5 (v := 1) rfl ?_
  obtain ⟨M3, hM3, hf⟩ := b_lt hf
  refine y_putZ hP fX12_344 (Or.inr rfl) lay67 hM3 dX12_copiesStill_6 ?_
  cases hf
  exact x_vret hP rfl dX12_copiesStill_9
def f_X12_mixed (x0 : Int32) (x1 : Int32) : Option (Int32) :=
  lt (((x0 ^^^ x1) * (1103515245 : Int32)) + (12345 : Int32) : Int32) fun v1 =>
  some (v1 ^^^ ((v1.toUInt32 >>> ((15 : Int32).toUInt32 &&& Int32.toUInt32 31)).toInt32))
set_option maxHeartbeats 1000000 in
set_option maxRecDepth 20000 in
theorem t_X12_mixed {g : GG} {L : List Lay} {d : Nat} (hd : 1 ≤ d) {x0 : Int32} {x1 : Int32} {M : Mem} {r : Int32} (hf : f_X12_mixed x0 x1 = some r) : ExM g d iX12_mixed [.int x0, .int x1] L M (some (.int r), L, M) := by
  have hd1 : 1 ≤ d := by omega
  refine ExM.main pnX12 rfl (ls := [some (.int x0), some (.int x1), none]) rfl ?_
  intro P hP
  rw [f_X12_mixed] at hf
  refine x_iload_n hP dX12_mixed_0 rfl ?_
  refine x_iload_n hP dX12_mixed_1 rfl ?_
  refine x_ixor hP dX12_mixed_2 ?_
  refine x_ldc_w hP dX12_mixed_3 qX12_350 ?_
  refine x_imul hP dX12_mixed_6 ?_
  refine x_sipush hP dX12_mixed_7 (v := 12345) rfl ?_
  refine x_iadd hP dX12_mixed_10 ?_
  obtain ⟨v1, hv1, hf⟩ := b_lt hf
  refine y_nmI hv1 ?_
  refine x_istore_n hP (ls2 := [some (.int x0), some (.int x1), some (.int v1)]) dX12_mixed_11 rfl rfl rfl ?_
  refine x_iload_n hP dX12_mixed_12 rfl ?_
  refine x_iload_n hP dX12_mixed_13 rfl ?_
  refine x_bipush hP dX12_mixed_14 (v := 15) rfl ?_
  refine x_iushr hP dX12_mixed_16 ?_
  refine x_ixor hP dX12_mixed_17 ?_
  cases hf
  exact x_iret hP rfl dX12_mixed_18
def f_X12_lotOf (x1 : Int32) (x2 : Int32) (M : Mem) : Option (Int32) :=
  (f_X12_mixed (M.1 67 55) (175 : Int32)).bind fun v2 =>
  (f_X12_mixed v2 x1).bind fun v4 =>
  (rm ((v4.toUInt32 >>> ((1 : Int32).toUInt32 &&& Int32.toUInt32 31)).toInt32) x2).bind fun v5 =>
  some v5
set_option maxHeartbeats 1000000 in
set_option maxRecDepth 20000 in
theorem t_X12_lotOf {g : GG} {d : Nat} (hd : 2 ≤ d) {x1 : Int32} {x2 : Int32} {M : Mem} {r : Int32} (hf : f_X12_lotOf x1 x2 M = some r) : ExM g d iX12_lotOf [.ref 67, .int x1, .int x2] LAY M (some (.int r), LAY, M) := by
  have hd1 : 1 ≤ d := by omega
  refine ExM.main pnX12 rfl (ls := [some (.ref 67), some (.int x1), some (.int x2)]) rfl ?_
  intro P hP
  rw [f_X12_lotOf] at hf
  refine x_aload_n hP dX12_lotOf_0 rfl ?_
  refine x_getI hP fX12_341 lay67 dX12_lotOf_1 ?_
  refine x_sipush hP dX12_lotOf_4 (v := 175) rfl ?_
  obtain ⟨v2, hc1, hf⟩ := b_bd hf
  refine y_csi hP oX12_mixed lX12_351 [.int (M.1 67 55), .int (175 : Int32)] [] rfl rfl rfl dX12_lotOf_7 (t_X12_mixed (d := d - 1) (by omega) hc1) (by omega) ?_
  refine x_iload_n hP dX12_lotOf_10 rfl ?_
  obtain ⟨v4, hc3, hf⟩ := b_bd hf
  refine y_csi hP oX12_mixed lX12_351 [.int v2, .int x1] [] rfl rfl rfl dX12_lotOf_11 (t_X12_mixed (d := d - 1) (by omega) hc3) (by omega) ?_
  refine x_iconst hP dX12_lotOf_14 (v := 1) rfl ?_
  refine x_iushr hP dX12_lotOf_15 ?_
  refine x_iload_n hP dX12_lotOf_16 rfl ?_
  obtain ⟨v5, hzv5, hv5, hf⟩ := b_rm hf
  refine y_rem hP hzv5 hv5 dX12_lotOf_17 ?_
  cases hf
  exact x_iret hP rfl dX12_lotOf_18
def f_X12_isDraught (M : Mem) : Option (Int32) :=
  (ag M 104 48 (47 : Int32)).bind fun v1 =>
  (f_X12_lotOf ((4 : Int32) * v1) (100 : Int32) M).bind fun v3 =>
  (ag M 89 2 (M.1 67 18)).bind fun v4 =>
  if v4 ≤ v3 then
    some (0 : Int32)
  else
    some (1 : Int32)
set_option maxHeartbeats 1000000 in
set_option maxRecDepth 20000 in
theorem t_X12_isDraught {g : GG} {d : Nat} (hd : 3 ≤ d) {M : Mem} {r : Int32} (hf : f_X12_isDraught M = some r) : ExM g d iX12_isDraught [.ref 67] LAY M (some (.int r), LAY, M) := by
  have hd1 : 1 ≤ d := by omega
  refine ExM.main pnX12 rfl (ls := [some (.ref 67)]) rfl ?_
  intro P hP
  rw [f_X12_isDraught] at hf
  refine x_aload_n hP dX12_isDraught_0 rfl ?_
  refine x_iconst hP dX12_isDraught_1 (v := 4) rfl ?_
  refine x_aload_n hP dX12_isDraught_2 rfl ?_
  refine x_getA hP fX12_128 lay67 (r := 104) rfl dX12_isDraught_3 ?_
  refine x_bipush hP dX12_isDraught_6 (v := 47) rfl ?_
  obtain ⟨v1, hiv1, hv1, hf⟩ := b_ag hf
  refine y_ald hP lay104 hiv1 hv1 dX12_isDraught_8 ?_
  refine x_imul hP dX12_isDraught_9 ?_
  refine x_bipush hP dX12_isDraught_10 (v := 100) rfl ?_
  obtain ⟨v3, hc2, hf⟩ := b_bd hf
  refine y_cvi hP oX12_lotOf lX12_354 [.int ((4 : Int32) * v1), .int (100 : Int32)] [] rfl rfl rfl lay67 dX12_isDraught_12 (t_X12_lotOf (d := d - 1) (by omega) hc2) (by omega) ?_
  refine x_aload_n hP dX12_isDraught_15 rfl ?_
  refine x_getA hP fX12_82 lay67 (r := 89) rfl dX12_isDraught_16 ?_
  refine x_aload_n hP dX12_isDraught_19 rfl ?_
  refine x_getI hP fX12_251 lay67 dX12_isDraught_20 ?_
  obtain ⟨v4, hiv4, hv4, hf⟩ := b_ag hf
  refine y_ald hP lay89 hiv4 hv4 dX12_isDraught_23 ?_
  refine x_icmp_ge hP dX12_isDraught_24 (tgt := 31) (by decide) (fun c5 => ?_) (fun c5 => ?_)
  · replace hf := p_t c5 hf
    refine x_iconst hP dX12_isDraught_31 (v := 0) rfl ?_
    cases hf
    exact x_zret hP rfl (Or.inl rfl) dX12_isDraught_32
  · replace hf := p_f c5 hf
    refine x_iconst hP dX12_isDraught_27 (v := 1) rfl ?_
    refine x_goto hP dX12_isDraught_28 (tgt := 32) (by decide) ?_
    cases hf
    exact x_zret hP rfl (Or.inr rfl) dX12_isDraught_32
def f_X12_lawTells_L39 (k : Mem → Option (Int32 × Mem)) : Nat → Int32 → Int32 → Mem → Option (Int32 × Mem)
  | 0, _, _, _ => none
  | fu + 1, l3, l4, M =>
    (ag M 92 8 l3).bind fun v7 =>
    if v7 ≤ l4 then
      k M
    else
      (ag M 93 260 l4).bind fun v9 =>
      lt (fun (M11 : Mem) =>
        (ag M11 96 260 l4).bind fun v12 =>
        (ag M11 97 260 l4).bind fun v13 =>
        (f_X12_termOf v12 v13 M11).bind fun t15 =>
        if t15.2.1 67 52 = 0 then
          some (t15.1, t15.2)
        else
          some ((0 : Int32), t15.2)
        ) fun j10 =>
      if v9 = 0 then
        j10 M
      else
        (ag M 94 260 l4).bind fun v18 =>
        (ag M 95 260 l4).bind fun v19 =>
        (f_X12_termOf v18 v19 M).bind fun t21 =>
        (ag t21.2 95 260 l4).bind fun v22 =>
        (ag t21.2 96 260 l4).bind fun v23 =>
        (f_X12_termOf v22 v23 t21.2).bind fun t25 =>
        if t25.2.1 67 52 = 0 then
          if t21.1 < t25.1 then
            j10 t25.2
          else
            lt (l4 + 1 : Int32) fun v28 =>
            f_X12_lawTells_L39 k fu l3 v28 t25.2
        else
          some ((0 : Int32), t25.2)
def f_X12_lawTells (x1 : Int32) (x2 : Int32) (M : Mem) : Option (Int32 × Mem) :=
  lt (((4 : Int32) * (M.1 67 18)) + x1 : Int32) fun v1 =>
  (ag M 91 8 v1).bind fun v2 =>
  (ag M 92 8 v1).bind fun v3 =>
  if v2 = v3 then
    some (x2, M)
  else
    lt (sI M 67 52 (0 : Int32)) fun M5 =>
    (ag M5 91 8 v1).bind fun v6 =>
    f_X12_lawTells_L39 (fun t29 =>
        some ((0 : Int32), t29)
      ) FU v1 v6 M5
set_option maxHeartbeats 1000000 in
set_option maxRecDepth 20000 in
theorem t_X12_lawTells_L39 {g : GG} {d : Nat} {P : PT} {r : Int32} {M' : Mem} (hd : 2 ≤ d)  {l3 : Int32} (hP : IsM g iX12_lawTells d (some (some (.int r), LAY, M')) P) {k : Mem → Option (Int32 × Mem)} (hk : ∀ t : Mem, k t = some (r, M') → P 159 [none, none, none, none, none, none, none] [] LAY t) : ∀ (fu : Nat) (l4 : Int32) (M : Mem), f_X12_lawTells_L39 k fu l3 l4 M = some (r, M') → P 39 [some (.ref 67), none, none, some (.int l3), some (.int l4), none, none] [] LAY M := by
  have hd1 : 1 ≤ d := by omega
  intro fu
  induction fu with
  | zero => intro l4 M hf; simp [f_X12_lawTells_L39] at hf
  | succ fu ih =>
    intro l4 M hf
    rw [f_X12_lawTells_L39] at hf
    refine x_iload hP dX12_lawTells_39 rfl ?_
    refine x_aload_n hP dX12_lawTells_41 rfl ?_
    refine x_getA hP fX12_91 lay67 (r := 92) rfl dX12_lawTells_42 ?_
    refine x_iload_n hP dX12_lawTells_45 rfl ?_
    obtain ⟨v7, hiv7, hv7, hf⟩ := b_ag hf
    refine y_ald hP lay92 hiv7 hv7 dX12_lawTells_46 ?_
    refine x_icmp_ge hP dX12_lawTells_47 (tgt := 159) (by decide) (fun c8 => ?_) (fun c8 => ?_)
    · replace hf := p_t c8 hf
      refine x_drop hP [none, none, none, none, none, none, none] trivial ?_
      exact hk _ hf
    · replace hf := p_f c8 hf
      refine x_aload_n hP dX12_lawTells_50 rfl ?_
      refine x_getA hP fX12_94 lay67 (r := 93) rfl dX12_lawTells_51 ?_
      refine x_iload hP dX12_lawTells_54 rfl ?_
      obtain ⟨v9, hiv9, hv9, hf⟩ := b_ag hf
      refine y_zld hP lay93 hiv9 hv9 dX12_lawTells_56 ?_
      obtain ⟨j10, hj10, hf⟩ := b_lt hf
      have hJj10 : ∀ (M11 : Mem), j10 M11 = some (r, M') → P 119 [some (.ref 67), none, none, none, some (.int l4), none, none] [] LAY M11 := by
        intro M11 hf
        rw [hj10] at hf
        try dsimp only at hf
        refine x_aload_n hP dX12_lawTells_119 rfl ?_
        refine x_aload_n hP dX12_lawTells_120 rfl ?_
        refine x_getA hP fX12_104 lay67 (r := 96) rfl dX12_lawTells_121 ?_
        refine x_iload hP dX12_lawTells_124 rfl ?_
        obtain ⟨v12, hiv12, hv12, hf⟩ := b_ag hf
        refine y_ald hP lay96 hiv12 hv12 dX12_lawTells_126 ?_
        refine x_aload_n hP dX12_lawTells_127 rfl ?_
        refine x_getA hP fX12_107 lay67 (r := 97) rfl dX12_lawTells_128 ?_
        refine x_iload hP dX12_lawTells_131 rfl ?_
        obtain ⟨v13, hiv13, hv13, hf⟩ := b_ag hf
        refine y_ald hP lay97 hiv13 hv13 dX12_lawTells_133 ?_
        obtain ⟨t15, hc14, hf⟩ := b_bd hf
        refine y_cvi hP oX12_termOf lX12_357 [.int v12, .int v13] [] rfl rfl rfl lay67 dX12_lawTells_134 (t_X12_termOf (d := d - 1) (by omega) hc14) (by omega) ?_
        refine x_istore hP (ls2 := [some (.ref 67), none, none, none, some (.int l4), some (.int t15.1), none]) dX12_lawTells_137 rfl rfl ?_
        refine x_aload_n hP dX12_lawTells_139 rfl ?_
        refine x_getZ hP fX12_330 lay67 dX12_lawTells_140 ?_
        refine x_if_eq hP dX12_lawTells_143 (tgt := 150) (by decide) (fun c16 => ?_) (fun c16 => ?_)
        · replace hf := p_t c16 hf
          refine x_iload hP dX12_lawTells_150 rfl ?_
          cases hf
          exact x_iret hP rfl dX12_lawTells_152
        · replace hf := p_f c16 hf
          refine x_iconst hP dX12_lawTells_146 (v := 0) rfl ?_
          refine x_goto hP dX12_lawTells_147 (tgt := 152) (by decide) ?_
          cases hf
          exact x_iret hP rfl dX12_lawTells_152
      clear hj10
      refine x_if_eq hP dX12_lawTells_57 (tgt := 119) (by decide) (fun c17 => ?_) (fun c17 => ?_)
      · replace hf := p_t c17 hf
        refine x_drop hP [some (.ref 67), none, none, none, some (.int l4), none, none] (And.intro rfl (And.intro rfl trivial)) ?_
        exact hJj10 _ hf
      · replace hf := p_f c17 hf
        refine x_aload_n hP dX12_lawTells_60 rfl ?_
        refine x_aload_n hP dX12_lawTells_61 rfl ?_
        refine x_getA hP fX12_98 lay67 (r := 94) rfl dX12_lawTells_62 ?_
        refine x_iload hP dX12_lawTells_65 rfl ?_
        obtain ⟨v18, hiv18, hv18, hf⟩ := b_ag hf
        refine y_ald hP lay94 hiv18 hv18 dX12_lawTells_67 ?_
        refine x_aload_n hP dX12_lawTells_68 rfl ?_
        refine x_getA hP fX12_101 lay67 (r := 95) rfl dX12_lawTells_69 ?_
        refine x_iload hP dX12_lawTells_72 rfl ?_
        obtain ⟨v19, hiv19, hv19, hf⟩ := b_ag hf
        refine y_ald hP lay95 hiv19 hv19 dX12_lawTells_74 ?_
        obtain ⟨t21, hc20, hf⟩ := b_bd hf
        refine y_cvi hP oX12_termOf lX12_357 [.int v18, .int v19] [] rfl rfl rfl lay67 dX12_lawTells_75 (t_X12_termOf (d := d - 1) (by omega) hc20) (by omega) ?_
        refine x_istore hP (ls2 := [some (.ref 67), none, none, some (.int l3), some (.int l4), some (.int t21.1), none]) dX12_lawTells_78 rfl rfl ?_
        refine x_aload_n hP dX12_lawTells_80 rfl ?_
        refine x_aload_n hP dX12_lawTells_81 rfl ?_
        refine x_getA hP fX12_101 lay67 (r := 95) rfl dX12_lawTells_82 ?_
        refine x_iload hP dX12_lawTells_85 rfl ?_
        obtain ⟨v22, hiv22, hv22, hf⟩ := b_ag hf
        refine y_ald hP lay95 hiv22 hv22 dX12_lawTells_87 ?_
        refine x_aload_n hP dX12_lawTells_88 rfl ?_
        refine x_getA hP fX12_104 lay67 (r := 96) rfl dX12_lawTells_89 ?_
        refine x_iload hP dX12_lawTells_92 rfl ?_
        obtain ⟨v23, hiv23, hv23, hf⟩ := b_ag hf
        refine y_ald hP lay96 hiv23 hv23 dX12_lawTells_94 ?_
        obtain ⟨t25, hc24, hf⟩ := b_bd hf
        refine y_cvi hP oX12_termOf lX12_357 [.int v22, .int v23] [] rfl rfl rfl lay67 dX12_lawTells_95 (t_X12_termOf (d := d - 1) (by omega) hc24) (by omega) ?_
        refine x_istore hP (ls2 := [some (.ref 67), none, none, some (.int l3), some (.int l4), some (.int t21.1), some (.int t25.1)]) dX12_lawTells_98 rfl rfl ?_
        refine x_aload_n hP dX12_lawTells_100 rfl ?_
        refine x_getZ hP fX12_330 lay67 dX12_lawTells_101 ?_
        refine x_if_eq hP dX12_lawTells_104 (tgt := 109) (by decide) (fun c26 => ?_) (fun c26 => ?_)
        · replace hf := p_t c26 hf
          refine x_iload hP dX12_lawTells_109 rfl ?_
          refine x_iload hP dX12_lawTells_111 rfl ?_
          refine x_icmp_lt hP dX12_lawTells_113 (tgt := 119) (by decide) (fun c27 => ?_) (fun c27 => ?_)
          · replace hf := p_t c27 hf
            refine x_drop hP [some (.ref 67), none, none, none, some (.int l4), none, none] (And.intro rfl (And.intro rfl trivial)) ?_
            exact hJj10 _ hf
          · replace hf := p_f c27 hf
            refine x_goto hP dX12_lawTells_116 (tgt := 153) (by decide) ?_
            obtain ⟨v28, hv28, hf⟩ := b_lt hf
            refine x_iinc hP (v := v28) (ls2 := [some (.ref 67), none, none, some (.int l3), some (.int v28), some (.int t21.1), some (.int t25.1)]) dX12_lawTells_153 rfl (by rw [hv28]; rfl) rfl rfl ?_
            refine x_goto hP dX12_lawTells_156 (tgt := 39) (by decide) ?_
            refine x_drop hP [some (.ref 67), none, none, some (.int l3), some (.int v28), none, none] (And.intro rfl (And.intro rfl (And.intro rfl trivial))) ?_
            exact ih _ _ hf
        · replace hf := p_f c26 hf
          refine x_iconst hP dX12_lawTells_107 (v := 0) rfl ?_
          cases hf
          exact x_iret hP rfl dX12_lawTells_108
set_option maxHeartbeats 1000000 in
set_option maxRecDepth 20000 in
theorem t_X12_lawTells {g : GG} {d : Nat} (hd : 2 ≤ d) {x1 : Int32} {x2 : Int32} {M : Mem} {r : Int32} {M' : Mem} (hf : f_X12_lawTells x1 x2 M = some (r, M')) : ExM g d iX12_lawTells [.ref 67, .int x1, .int x2] LAY M (some (.int r), LAY, M') := by
  have hd1 : 1 ≤ d := by omega
  refine ExM.main pnX12 rfl (ls := [some (.ref 67), some (.int x1), some (.int x2), none, none, none, none]) rfl ?_
  intro P hP
  rw [f_X12_lawTells] at hf
  refine x_iconst hP dX12_lawTells_0 (v := 4) rfl ?_
  refine x_aload_n hP dX12_lawTells_1 rfl ?_
  refine x_getI hP fX12_251 lay67 dX12_lawTells_2 ?_
  refine x_imul hP dX12_lawTells_5 ?_
  refine x_iload_n hP dX12_lawTells_6 rfl ?_
  refine x_iadd hP dX12_lawTells_7 ?_
  obtain ⟨v1, hv1, hf⟩ := b_lt hf
  refine y_nmI hv1 ?_
  refine x_istore_n hP (ls2 := [some (.ref 67), some (.int x1), some (.int x2), some (.int v1), none, none, none]) dX12_lawTells_8 rfl rfl rfl ?_
  refine x_aload_n hP dX12_lawTells_9 rfl ?_
  refine x_getA hP fX12_88 lay67 (r := 91) rfl dX12_lawTells_10 ?_
  refine x_iload_n hP dX12_lawTells_13 rfl ?_
  obtain ⟨v2, hiv2, hv2, hf⟩ := b_ag hf
  refine y_ald hP lay91 hiv2 hv2 dX12_lawTells_14 ?_
  refine x_aload_n hP dX12_lawTells_15 rfl ?_
  refine x_getA hP fX12_91 lay67 (r := 92) rfl dX12_lawTells_16 ?_
  refine x_iload_n hP dX12_lawTells_19 rfl ?_
  obtain ⟨v3, hiv3, hv3, hf⟩ := b_ag hf
  refine y_ald hP lay92 hiv3 hv3 dX12_lawTells_20 ?_
  refine x_icmp_ne hP dX12_lawTells_21 (tgt := 26) (by decide) (fun c4 => ?_) (fun c4 => ?_)
  · replace hf := p_f c4 hf
    refine x_aload_n hP dX12_lawTells_26 rfl ?_
    refine x_iconst hP dX12_lawTells_27 (v := 0) rfl ?_
    obtain ⟨M5, hM5, hf⟩ := b_lt hf
    refine y_putZ hP fX12_330 (Or.inl rfl) lay67 hM5 dX12_lawTells_28 ?_
    refine x_aload_n hP dX12_lawTells_31 rfl ?_
    refine x_getA hP fX12_88 lay67 (r := 91) rfl dX12_lawTells_32 ?_
    refine x_iload_n hP dX12_lawTells_35 rfl ?_
    obtain ⟨v6, hiv6, hv6, hf⟩ := b_ag hf
    refine y_ald hP lay91 hiv6 hv6 dX12_lawTells_36 ?_
    refine x_istore hP (ls2 := [some (.ref 67), some (.int x1), some (.int x2), some (.int v1), some (.int v6), none, none]) dX12_lawTells_37 rfl rfl ?_
    refine x_drop hP [some (.ref 67), none, none, some (.int v1), some (.int v6), none, none] (And.intro rfl (And.intro rfl (And.intro rfl trivial))) ?_
    refine t_X12_lawTells_L39 hd hP (fun t29 hf => ?_) _ _ _ hf
    refine x_iconst hP dX12_lawTells_159 (v := 0) rfl ?_
    cases hf
    exact x_iret hP rfl dX12_lawTells_160
  · replace hf := p_t c4 hf
    refine x_iload_n hP dX12_lawTells_24 rfl ?_
    cases hf
    exact x_iret hP rfl dX12_lawTells_25
def f_X12_looks (x1 : Int32) (x2 : Int32) (x3 : Int32) (M : Mem) : Option (Mem) :=
  (pg M 101 9 (0 : Int32) x2).bind fun M1 =>
  (ag M1 83 12 (((6 : Int32) * (M1.1 67 18)) + x1)).bind fun v2 =>
  (pg M1 101 9 (1 : Int32) v2).bind fun M3 =>
  (ag M3 84 12 (((6 : Int32) * (M3.1 67 18)) + x1)).bind fun v4 =>
  (pg M3 101 9 (2 : Int32) v4).bind fun M5 =>
  (pg M5 101 9 (3 : Int32) x3).bind fun M6 =>
  (ag M6 104 48 (47 : Int32)).bind fun v7 =>
  (ag M6 104 48 ((24 : Int32) + x1)).bind fun v8 =>
  (pg M6 101 9 (4 : Int32) (v7 - v8)).bind fun M9 =>
  (ag M9 104 48 (47 : Int32)).bind fun v10 =>
  (pg M9 101 9 (5 : Int32) (v10 - v10 / (24 : Int32) * (24 : Int32))).bind fun M11 =>
  (ag M11 104 48 ((6 : Int32) + x1)).bind fun v12 =>
  (pg M11 101 9 (6 : Int32) v12).bind fun M13 =>
  (pg M13 101 9 (7 : Int32) x1).bind fun M14 =>
  (ag M14 104 48 ((18 : Int32) + x1)).bind fun v15 =>
  (pg M14 101 9 (8 : Int32) v15).bind fun M16 =>
  some M16
set_option maxHeartbeats 1000000 in
set_option maxRecDepth 20000 in
theorem t_X12_looks {g : GG} {d : Nat} (hd : 1 ≤ d) {x1 : Int32} {x2 : Int32} {x3 : Int32} {M : Mem} {M' : Mem} (hf : f_X12_looks x1 x2 x3 M = some M') : ExM g d iX12_looks [.ref 67, .int x1, .int x2, .int x3] LAY M (none, LAY, M') := by
  have hd1 : 1 ≤ d := by omega
  refine ExM.main pnX12 rfl (ls := [some (.ref 67), some (.int x1), some (.int x2), some (.int x3)]) rfl ?_
  intro P hP
  rw [f_X12_looks] at hf
  refine x_aload_n hP dX12_looks_0 rfl ?_
  refine x_getA hP fX12_119 lay67 (r := 101) rfl dX12_looks_1 ?_
  refine x_iconst hP dX12_looks_4 (v := 0) rfl ?_
  refine x_iload_n hP dX12_looks_5 rfl ?_
  obtain ⟨M1, hiM1, hM1, hf⟩ := b_pg hf
  refine y_ast hP lay101 hiM1 hM1 dX12_looks_6 ?_
  refine x_aload_n hP dX12_looks_7 rfl ?_
  refine x_getA hP fX12_119 lay67 (r := 101) rfl dX12_looks_8 ?_
  refine x_iconst hP dX12_looks_11 (v := 1) rfl ?_
  refine x_aload_n hP dX12_looks_12 rfl ?_
  refine x_getA hP fX12_64 lay67 (r := 83) rfl dX12_looks_13 ?_
  refine x_bipush hP dX12_looks_16 (v := 6) rfl ?_
  refine x_aload_n hP dX12_looks_18 rfl ?_
  refine x_getI hP fX12_251 lay67 dX12_looks_19 ?_
  refine x_imul hP dX12_looks_22 ?_
  refine x_iload_n hP dX12_looks_23 rfl ?_
  refine x_iadd hP dX12_looks_24 ?_
  obtain ⟨v2, hiv2, hv2, hf⟩ := b_ag hf
  refine y_ald hP lay83 hiv2 hv2 dX12_looks_25 ?_
  obtain ⟨M3, hiM3, hM3, hf⟩ := b_pg hf
  refine y_ast hP lay101 hiM3 hM3 dX12_looks_26 ?_
  refine x_aload_n hP dX12_looks_27 rfl ?_
  refine x_getA hP fX12_119 lay67 (r := 101) rfl dX12_looks_28 ?_
  refine x_iconst hP dX12_looks_31 (v := 2) rfl ?_
  refine x_aload_n hP dX12_looks_32 rfl ?_
  refine x_getA hP fX12_67 lay67 (r := 84) rfl dX12_looks_33 ?_
  refine x_bipush hP dX12_looks_36 (v := 6) rfl ?_
  refine x_aload_n hP dX12_looks_38 rfl ?_
  refine x_getI hP fX12_251 lay67 dX12_looks_39 ?_
  refine x_imul hP dX12_looks_42 ?_
  refine x_iload_n hP dX12_looks_43 rfl ?_
  refine x_iadd hP dX12_looks_44 ?_
  obtain ⟨v4, hiv4, hv4, hf⟩ := b_ag hf
  refine y_ald hP lay84 hiv4 hv4 dX12_looks_45 ?_
  obtain ⟨M5, hiM5, hM5, hf⟩ := b_pg hf
  refine y_ast hP lay101 hiM5 hM5 dX12_looks_46 ?_
  refine x_aload_n hP dX12_looks_47 rfl ?_
  refine x_getA hP fX12_119 lay67 (r := 101) rfl dX12_looks_48 ?_
  refine x_iconst hP dX12_looks_51 (v := 3) rfl ?_
  refine x_iload_n hP dX12_looks_52 rfl ?_
  obtain ⟨M6, hiM6, hM6, hf⟩ := b_pg hf
  refine y_ast hP lay101 hiM6 hM6 dX12_looks_53 ?_
  refine x_aload_n hP dX12_looks_54 rfl ?_
  refine x_getA hP fX12_119 lay67 (r := 101) rfl dX12_looks_55 ?_
  refine x_iconst hP dX12_looks_58 (v := 4) rfl ?_
  refine x_aload_n hP dX12_looks_59 rfl ?_
  refine x_getA hP fX12_128 lay67 (r := 104) rfl dX12_looks_60 ?_
  refine x_bipush hP dX12_looks_63 (v := 47) rfl ?_
  obtain ⟨v7, hiv7, hv7, hf⟩ := b_ag hf
  refine y_ald hP lay104 hiv7 hv7 dX12_looks_65 ?_
  refine x_aload_n hP dX12_looks_66 rfl ?_
  refine x_getA hP fX12_128 lay67 (r := 104) rfl dX12_looks_67 ?_
  refine x_bipush hP dX12_looks_70 (v := 24) rfl ?_
  refine x_iload_n hP dX12_looks_72 rfl ?_
  refine x_iadd hP dX12_looks_73 ?_
  obtain ⟨v8, hiv8, hv8, hf⟩ := b_ag hf
  refine y_ald hP lay104 hiv8 hv8 dX12_looks_74 ?_
  refine x_isub hP dX12_looks_75 ?_
  obtain ⟨M9, hiM9, hM9, hf⟩ := b_pg hf
  refine y_ast hP lay101 hiM9 hM9 dX12_looks_76 ?_
  refine x_aload_n hP dX12_looks_77 rfl ?_
  refine x_getA hP fX12_119 lay67 (r := 101) rfl dX12_looks_78 ?_
  refine x_iconst hP dX12_looks_81 (v := 5) rfl ?_
  refine x_aload_n hP dX12_looks_82 rfl ?_
  refine x_getA hP fX12_128 lay67 (r := 104) rfl dX12_looks_83 ?_
  refine x_bipush hP dX12_looks_86 (v := 47) rfl ?_
  obtain ⟨v10, hiv10, hv10, hf⟩ := b_ag hf
  refine y_ald hP lay104 hiv10 hv10 dX12_looks_88 ?_
  refine x_bipush hP dX12_looks_89 (v := 24) rfl ?_
  refine x_irem hP dX12_looks_91 (by decide) ?_
  obtain ⟨M11, hiM11, hM11, hf⟩ := b_pg hf
  refine y_ast hP lay101 hiM11 hM11 dX12_looks_92 ?_
  refine x_aload_n hP dX12_looks_93 rfl ?_
  refine x_getA hP fX12_119 lay67 (r := 101) rfl dX12_looks_94 ?_
  refine x_bipush hP dX12_looks_97 (v := 6) rfl ?_
  refine x_aload_n hP dX12_looks_99 rfl ?_
  refine x_getA hP fX12_128 lay67 (r := 104) rfl dX12_looks_100 ?_
  refine x_bipush hP dX12_looks_103 (v := 6) rfl ?_
  refine x_iload_n hP dX12_looks_105 rfl ?_
  refine x_iadd hP dX12_looks_106 ?_
  obtain ⟨v12, hiv12, hv12, hf⟩ := b_ag hf
  refine y_ald hP lay104 hiv12 hv12 dX12_looks_107 ?_
  obtain ⟨M13, hiM13, hM13, hf⟩ := b_pg hf
  refine y_ast hP lay101 hiM13 hM13 dX12_looks_108 ?_
  refine x_aload_n hP dX12_looks_109 rfl ?_
  refine x_getA hP fX12_119 lay67 (r := 101) rfl dX12_looks_110 ?_
  refine x_bipush hP dX12_looks_113 (v := 7) rfl ?_
  refine x_iload_n hP dX12_looks_115 rfl ?_
  obtain ⟨M14, hiM14, hM14, hf⟩ := b_pg hf
  refine y_ast hP lay101 hiM14 hM14 dX12_looks_116 ?_
  refine x_aload_n hP dX12_looks_117 rfl ?_
  refine x_getA hP fX12_119 lay67 (r := 101) rfl dX12_looks_118 ?_
  refine x_bipush hP dX12_looks_121 (v := 8) rfl ?_
  refine x_aload_n hP dX12_looks_123 rfl ?_
  refine x_getA hP fX12_128 lay67 (r := 104) rfl dX12_looks_124 ?_
  refine x_bipush hP dX12_looks_127 (v := 18) rfl ?_
  refine x_iload_n hP dX12_looks_129 rfl ?_
  refine x_iadd hP dX12_looks_130 ?_
  obtain ⟨v15, hiv15, hv15, hf⟩ := b_ag hf
  refine y_ald hP lay104 hiv15 hv15 dX12_looks_131 ?_
  obtain ⟨M16, hiM16, hM16, hf⟩ := b_pg hf
  refine y_ast hP lay101 hiM16 hM16 dX12_looks_132 ?_
  cases hf
  exact x_vret hP rfl dX12_looks_133
def f_X12_glowsOf (x1 : Int32) (x2 : Int32) (M : Mem) : Option (Int32 × Mem) :=
  (ag M 104 48 ((36 : Int32) + x2)).bind fun v1 =>
  (ag M 104 48 ((41 : Int32) + x2)).bind fun v2 =>
  (f_X12_looks x1 v1 v2 M).bind fun M4 =>
  (ag M4 104 48 ((36 : Int32) + x2)).bind fun v5 =>
  (f_X12_lawTells (0 : Int32) v5 M4).bind fun t7 =>
  (f_X12_within t7.1 (0 : Int32) (99 : Int32)).bind fun v9 =>
  some (v9, t7.2)
set_option maxHeartbeats 1000000 in
set_option maxRecDepth 20000 in
theorem t_X12_glowsOf {g : GG} {d : Nat} (hd : 3 ≤ d) {x1 : Int32} {x2 : Int32} {M : Mem} {r : Int32} {M' : Mem} (hf : f_X12_glowsOf x1 x2 M = some (r, M')) : ExM g d iX12_glowsOf [.ref 67, .int x1, .int x2] LAY M (some (.int r), LAY, M') := by
  have hd1 : 1 ≤ d := by omega
  refine ExM.main pnX12 rfl (ls := [some (.ref 67), some (.int x1), some (.int x2)]) rfl ?_
  intro P hP
  rw [f_X12_glowsOf] at hf
  refine x_aload_n hP dX12_glowsOf_0 rfl ?_
  refine x_iload_n hP dX12_glowsOf_1 rfl ?_
  refine x_aload_n hP dX12_glowsOf_2 rfl ?_
  refine x_getA hP fX12_128 lay67 (r := 104) rfl dX12_glowsOf_3 ?_
  refine x_bipush hP dX12_glowsOf_6 (v := 36) rfl ?_
  refine x_iload_n hP dX12_glowsOf_8 rfl ?_
  refine x_iadd hP dX12_glowsOf_9 ?_
  obtain ⟨v1, hiv1, hv1, hf⟩ := b_ag hf
  refine y_ald hP lay104 hiv1 hv1 dX12_glowsOf_10 ?_
  refine x_aload_n hP dX12_glowsOf_11 rfl ?_
  refine x_getA hP fX12_128 lay67 (r := 104) rfl dX12_glowsOf_12 ?_
  refine x_bipush hP dX12_glowsOf_15 (v := 41) rfl ?_
  refine x_iload_n hP dX12_glowsOf_17 rfl ?_
  refine x_iadd hP dX12_glowsOf_18 ?_
  obtain ⟨v2, hiv2, hv2, hf⟩ := b_ag hf
  refine y_ald hP lay104 hiv2 hv2 dX12_glowsOf_19 ?_
  obtain ⟨M4, hc3, hf⟩ := b_bd hf
  refine y_cvv hP oX12_looks lX12_360 [.int x1, .int v1, .int v2] [] rfl rfl rfl lay67 dX12_glowsOf_20 (t_X12_looks (d := d - 1) (by omega) hc3) (by omega) ?_
  refine x_aload_n hP dX12_glowsOf_23 rfl ?_
  refine x_iconst hP dX12_glowsOf_24 (v := 0) rfl ?_
  refine x_aload_n hP dX12_glowsOf_25 rfl ?_
  refine x_getA hP fX12_128 lay67 (r := 104) rfl dX12_glowsOf_26 ?_
  refine x_bipush hP dX12_glowsOf_29 (v := 36) rfl ?_
  refine x_iload_n hP dX12_glowsOf_31 rfl ?_
  refine x_iadd hP dX12_glowsOf_32 ?_
  obtain ⟨v5, hiv5, hv5, hf⟩ := b_ag hf
  refine y_ald hP lay104 hiv5 hv5 dX12_glowsOf_33 ?_
  obtain ⟨t7, hc6, hf⟩ := b_bd hf
  refine y_cvi hP oX12_lawTells lX12_364 [.int (0 : Int32), .int v5] [] rfl rfl rfl lay67 dX12_glowsOf_34 (t_X12_lawTells (d := d - 1) (by omega) hc6) (by omega) ?_
  refine x_iconst hP dX12_glowsOf_37 (v := 0) rfl ?_
  refine x_bipush hP dX12_glowsOf_38 (v := 99) rfl ?_
  obtain ⟨v9, hc8, hf⟩ := b_bd hf
  refine y_csi hP oX12_within lX12_367 [.int t7.1, .int (0 : Int32), .int (99 : Int32)] [] rfl rfl rfl dX12_glowsOf_40 (t_X12_within (d := d - 1) (by omega) hc8) (by omega) ?_
  cases hf
  exact x_iret hP rfl dX12_glowsOf_43
def f_X12_wearsOf (x1 : Int32) (x2 : Int32) (M : Mem) : Option (Int32 × Mem) :=
  (ag M 104 48 ((36 : Int32) + x2)).bind fun v1 =>
  (ag M 104 48 ((41 : Int32) + x2)).bind fun v2 =>
  (f_X12_looks x1 v1 v2 M).bind fun M4 =>
  (f_X12_lawTells (1 : Int32) (1 : Int32) M4).bind fun t6 =>
  (f_X12_within t6.1 (0 : Int32) (99 : Int32)).bind fun v8 =>
  some (v8, t6.2)
set_option maxHeartbeats 1000000 in
set_option maxRecDepth 20000 in
theorem t_X12_wearsOf {g : GG} {d : Nat} (hd : 3 ≤ d) {x1 : Int32} {x2 : Int32} {M : Mem} {r : Int32} {M' : Mem} (hf : f_X12_wearsOf x1 x2 M = some (r, M')) : ExM g d iX12_wearsOf [.ref 67, .int x1, .int x2] LAY M (some (.int r), LAY, M') := by
  have hd1 : 1 ≤ d := by omega
  refine ExM.main pnX12 rfl (ls := [some (.ref 67), some (.int x1), some (.int x2)]) rfl ?_
  intro P hP
  rw [f_X12_wearsOf] at hf
  refine x_aload_n hP dX12_wearsOf_0 rfl ?_
  refine x_iload_n hP dX12_wearsOf_1 rfl ?_
  refine x_aload_n hP dX12_wearsOf_2 rfl ?_
  refine x_getA hP fX12_128 lay67 (r := 104) rfl dX12_wearsOf_3 ?_
  refine x_bipush hP dX12_wearsOf_6 (v := 36) rfl ?_
  refine x_iload_n hP dX12_wearsOf_8 rfl ?_
  refine x_iadd hP dX12_wearsOf_9 ?_
  obtain ⟨v1, hiv1, hv1, hf⟩ := b_ag hf
  refine y_ald hP lay104 hiv1 hv1 dX12_wearsOf_10 ?_
  refine x_aload_n hP dX12_wearsOf_11 rfl ?_
  refine x_getA hP fX12_128 lay67 (r := 104) rfl dX12_wearsOf_12 ?_
  refine x_bipush hP dX12_wearsOf_15 (v := 41) rfl ?_
  refine x_iload_n hP dX12_wearsOf_17 rfl ?_
  refine x_iadd hP dX12_wearsOf_18 ?_
  obtain ⟨v2, hiv2, hv2, hf⟩ := b_ag hf
  refine y_ald hP lay104 hiv2 hv2 dX12_wearsOf_19 ?_
  obtain ⟨M4, hc3, hf⟩ := b_bd hf
  refine y_cvv hP oX12_looks lX12_360 [.int x1, .int v1, .int v2] [] rfl rfl rfl lay67 dX12_wearsOf_20 (t_X12_looks (d := d - 1) (by omega) hc3) (by omega) ?_
  refine x_aload_n hP dX12_wearsOf_23 rfl ?_
  refine x_iconst hP dX12_wearsOf_24 (v := 1) rfl ?_
  refine x_iconst hP dX12_wearsOf_25 (v := 1) rfl ?_
  obtain ⟨t6, hc5, hf⟩ := b_bd hf
  refine y_cvi hP oX12_lawTells lX12_364 [.int (1 : Int32), .int (1 : Int32)] [] rfl rfl rfl lay67 dX12_wearsOf_26 (t_X12_lawTells (d := d - 1) (by omega) hc5) (by omega) ?_
  refine x_iconst hP dX12_wearsOf_29 (v := 0) rfl ?_
  refine x_bipush hP dX12_wearsOf_30 (v := 99) rfl ?_
  obtain ⟨v8, hc7, hf⟩ := b_bd hf
  refine y_csi hP oX12_within lX12_367 [.int t6.1, .int (0 : Int32), .int (99 : Int32)] [] rfl rfl rfl dX12_wearsOf_32 (t_X12_within (d := d - 1) (by omega) hc7) (by omega) ?_
  cases hf
  exact x_iret hP rfl dX12_wearsOf_35
def f_X12_coolsOf (x1 : Int32) (M : Mem) : Option (Int32 × Mem) :=
  (f_X12_looks x1 (0 : Int32) (0 : Int32) M).bind fun M2 =>
  (f_X12_lawTells (2 : Int32) (0 : Int32) M2).bind fun t4 =>
  (f_X12_within t4.1 (0 : Int32) (99 : Int32)).bind fun v6 =>
  some (v6, t4.2)
set_option maxHeartbeats 1000000 in
set_option maxRecDepth 20000 in
theorem t_X12_coolsOf {g : GG} {d : Nat} (hd : 3 ≤ d) {x1 : Int32} {M : Mem} {r : Int32} {M' : Mem} (hf : f_X12_coolsOf x1 M = some (r, M')) : ExM g d iX12_coolsOf [.ref 67, .int x1] LAY M (some (.int r), LAY, M') := by
  have hd1 : 1 ≤ d := by omega
  refine ExM.main pnX12 rfl (ls := [some (.ref 67), some (.int x1)]) rfl ?_
  intro P hP
  rw [f_X12_coolsOf] at hf
  refine x_aload_n hP dX12_coolsOf_0 rfl ?_
  refine x_iload_n hP dX12_coolsOf_1 rfl ?_
  refine x_iconst hP dX12_coolsOf_2 (v := 0) rfl ?_
  refine x_iconst hP dX12_coolsOf_3 (v := 0) rfl ?_
  obtain ⟨M2, hc1, hf⟩ := b_bd hf
  refine y_cvv hP oX12_looks lX12_360 [.int x1, .int (0 : Int32), .int (0 : Int32)] [] rfl rfl rfl lay67 dX12_coolsOf_4 (t_X12_looks (d := d - 1) (by omega) hc1) (by omega) ?_
  refine x_aload_n hP dX12_coolsOf_7 rfl ?_
  refine x_iconst hP dX12_coolsOf_8 (v := 2) rfl ?_
  refine x_iconst hP dX12_coolsOf_9 (v := 0) rfl ?_
  obtain ⟨t4, hc3, hf⟩ := b_bd hf
  refine y_cvi hP oX12_lawTells lX12_364 [.int (2 : Int32), .int (0 : Int32)] [] rfl rfl rfl lay67 dX12_coolsOf_10 (t_X12_lawTells (d := d - 1) (by omega) hc3) (by omega) ?_
  refine x_iconst hP dX12_coolsOf_13 (v := 0) rfl ?_
  refine x_bipush hP dX12_coolsOf_14 (v := 99) rfl ?_
  obtain ⟨v6, hc5, hf⟩ := b_bd hf
  refine y_csi hP oX12_within lX12_367 [.int t4.1, .int (0 : Int32), .int (99 : Int32)] [] rfl rfl rfl dX12_coolsOf_16 (t_X12_within (d := d - 1) (by omega) hc5) (by omega) ?_
  cases hf
  exact x_iret hP rfl dX12_coolsOf_19
def f_X12_doesLeave (x1 : Int32) (M : Mem) : Option (Int32 × Mem) :=
  (f_X12_looks x1 (0 : Int32) (0 : Int32) M).bind fun M2 =>
  (ag M2 104 48 ((12 : Int32) + x1)).bind fun v3 =>
  if v3 = 0 then
    (f_X12_lawTells (3 : Int32) (0 : Int32) M2).bind fun t6 =>
    if t6.1 ≤ 0 then
      some ((0 : Int32), t6.2)
    else
      some ((1 : Int32), t6.2)
  else
    some ((0 : Int32), M2)
set_option maxHeartbeats 1000000 in
set_option maxRecDepth 20000 in
theorem t_X12_doesLeave {g : GG} {d : Nat} (hd : 3 ≤ d) {x1 : Int32} {M : Mem} {r : Int32} {M' : Mem} (hf : f_X12_doesLeave x1 M = some (r, M')) : ExM g d iX12_doesLeave [.ref 67, .int x1] LAY M (some (.int r), LAY, M') := by
  have hd1 : 1 ≤ d := by omega
  refine ExM.main pnX12 rfl (ls := [some (.ref 67), some (.int x1)]) rfl ?_
  intro P hP
  rw [f_X12_doesLeave] at hf
  refine x_aload_n hP dX12_doesLeave_0 rfl ?_
  refine x_iload_n hP dX12_doesLeave_1 rfl ?_
  refine x_iconst hP dX12_doesLeave_2 (v := 0) rfl ?_
  refine x_iconst hP dX12_doesLeave_3 (v := 0) rfl ?_
  obtain ⟨M2, hc1, hf⟩ := b_bd hf
  refine y_cvv hP oX12_looks lX12_360 [.int x1, .int (0 : Int32), .int (0 : Int32)] [] rfl rfl rfl lay67 dX12_doesLeave_4 (t_X12_looks (d := d - 1) (by omega) hc1) (by omega) ?_
  refine x_aload_n hP dX12_doesLeave_7 rfl ?_
  refine x_getA hP fX12_128 lay67 (r := 104) rfl dX12_doesLeave_8 ?_
  refine x_bipush hP dX12_doesLeave_11 (v := 12) rfl ?_
  refine x_iload_n hP dX12_doesLeave_13 rfl ?_
  refine x_iadd hP dX12_doesLeave_14 ?_
  obtain ⟨v3, hiv3, hv3, hf⟩ := b_ag hf
  refine y_ald hP lay104 hiv3 hv3 dX12_doesLeave_15 ?_
  refine x_if_ne hP dX12_doesLeave_16 (tgt := 32) (by decide) (fun c4 => ?_) (fun c4 => ?_)
  · replace hf := p_f c4 hf
    refine x_iconst hP dX12_doesLeave_32 (v := 0) rfl ?_
    cases hf
    exact x_zret hP rfl (Or.inl rfl) dX12_doesLeave_33
  · replace hf := p_t c4 hf
    refine x_aload_n hP dX12_doesLeave_19 rfl ?_
    refine x_iconst hP dX12_doesLeave_20 (v := 3) rfl ?_
    refine x_iconst hP dX12_doesLeave_21 (v := 0) rfl ?_
    obtain ⟨t6, hc5, hf⟩ := b_bd hf
    refine y_cvi hP oX12_lawTells lX12_364 [.int (3 : Int32), .int (0 : Int32)] [] rfl rfl rfl lay67 dX12_doesLeave_22 (t_X12_lawTells (d := d - 1) (by omega) hc5) (by omega) ?_
    refine x_if_le hP dX12_doesLeave_25 (tgt := 32) (by decide) (fun c7 => ?_) (fun c7 => ?_)
    · replace hf := p_t c7 hf
      refine x_iconst hP dX12_doesLeave_32 (v := 0) rfl ?_
      cases hf
      exact x_zret hP rfl (Or.inl rfl) dX12_doesLeave_33
    · replace hf := p_f c7 hf
      refine x_iconst hP dX12_doesLeave_28 (v := 1) rfl ?_
      refine x_goto hP dX12_doesLeave_29 (tgt := 33) (by decide) ?_
      cases hf
      exact x_zret hP rfl (Or.inr rfl) dX12_doesLeave_33
def f_X12_says (x1 : Int32) (x2 : Int32) (M : Mem) : Option (Mem) :=
  (f_X12_glowsOf x1 x2 M).bind fun t2 =>
  (f_X12_wearsOf x1 x2 t2.2).bind fun t4 =>
  (ag t4.2 104 48 ((6 : Int32) + x1)).bind fun v5 =>
  (f_X12_within (v5 + t2.1) (0 : Int32) (999 : Int32)).bind fun v7 =>
  (pg t4.2 104 48 ((6 : Int32) + x1) v7).bind fun M8 =>
  (ag M8 104 48 ((36 : Int32) + x2)).bind fun v9 =>
  (f_X12_within (v9 - t4.1) (0 : Int32) (99 : Int32)).bind fun v11 =>
  (pg M8 104 48 ((36 : Int32) + x2) v11).bind fun M12 =>
  (ag M12 104 48 ((41 : Int32) + x2)).bind fun v13 =>
  (pg M12 104 48 ((41 : Int32) + x2) (v13 + (1 : Int32))).bind fun M14 =>
  (ag M14 104 48 ((18 : Int32) + x1)).bind fun v15 =>
  (pg M14 104 48 ((18 : Int32) + x1) (v15 + (1 : Int32))).bind fun M16 =>
  (ag M16 104 48 (47 : Int32)).bind fun v17 =>
  (pg M16 104 48 ((24 : Int32) + x1) v17).bind fun M18 =>
  some M18
set_option maxHeartbeats 1000000 in
set_option maxRecDepth 20000 in
theorem t_X12_says {g : GG} {d : Nat} (hd : 4 ≤ d) {x1 : Int32} {x2 : Int32} {M : Mem} {M' : Mem} (hf : f_X12_says x1 x2 M = some M') : ExM g d iX12_says [.ref 67, .int x1, .int x2] LAY M (none, LAY, M') := by
  have hd1 : 1 ≤ d := by omega
  refine ExM.main pnX12 rfl (ls := [some (.ref 67), some (.int x1), some (.int x2), none, none]) rfl ?_
  intro P hP
  rw [f_X12_says] at hf
  refine x_aload_n hP dX12_says_0 rfl ?_
  refine x_iload_n hP dX12_says_1 rfl ?_
  refine x_iload_n hP dX12_says_2 rfl ?_
  obtain ⟨t2, hc1, hf⟩ := b_bd hf
  refine y_cvi hP oX12_glowsOf lX12_370 [.int x1, .int x2] [] rfl rfl rfl lay67 dX12_says_3 (t_X12_glowsOf (d := d - 1) (by omega) hc1) (by omega) ?_
  refine x_istore_n hP (ls2 := [some (.ref 67), some (.int x1), some (.int x2), some (.int t2.1), none]) dX12_says_6 rfl rfl rfl ?_
  refine x_aload_n hP dX12_says_7 rfl ?_
  refine x_iload_n hP dX12_says_8 rfl ?_
  refine x_iload_n hP dX12_says_9 rfl ?_
  obtain ⟨t4, hc3, hf⟩ := b_bd hf
  refine y_cvi hP oX12_wearsOf lX12_373 [.int x1, .int x2] [] rfl rfl rfl lay67 dX12_says_10 (t_X12_wearsOf (d := d - 1) (by omega) hc3) (by omega) ?_
  refine x_istore hP (ls2 := [some (.ref 67), some (.int x1), some (.int x2), some (.int t2.1), some (.int t4.1)]) dX12_says_13 rfl rfl ?_
  refine x_aload_n hP dX12_says_15 rfl ?_
  refine x_getA hP fX12_128 lay67 (r := 104) rfl dX12_says_16 ?_
  refine x_bipush hP dX12_says_19 (v := 6) rfl ?_
  refine x_iload_n hP dX12_says_21 rfl ?_
  refine x_iadd hP dX12_says_22 ?_
  refine x_aload_n hP dX12_says_23 rfl ?_
  refine x_getA hP fX12_128 lay67 (r := 104) rfl dX12_says_24 ?_
  refine x_bipush hP dX12_says_27 (v := 6) rfl ?_
  refine x_iload_n hP dX12_says_29 rfl ?_
  refine x_iadd hP dX12_says_30 ?_
  obtain ⟨v5, hiv5, hv5, hf⟩ := b_ag hf
  refine y_ald hP lay104 hiv5 hv5 dX12_says_31 ?_
  refine x_iload_n hP dX12_says_32 rfl ?_
  refine x_iadd hP dX12_says_33 ?_
  refine x_iconst hP dX12_says_34 (v := 0) rfl ?_
  refine x_sipush hP dX12_says_35 (v := 999) rfl ?_
  obtain ⟨v7, hc6, hf⟩ := b_bd hf
  refine y_csi hP oX12_within lX12_367 [.int (v5 + t2.1), .int (0 : Int32), .int (999 : Int32)] [.int ((6 : Int32) + x1), .ref 104] rfl rfl rfl dX12_says_38 (t_X12_within (d := d - 1) (by omega) hc6) (by omega) ?_
  obtain ⟨M8, hiM8, hM8, hf⟩ := b_pg hf
  refine y_ast hP lay104 hiM8 hM8 dX12_says_41 ?_
  refine x_aload_n hP dX12_says_42 rfl ?_
  refine x_getA hP fX12_128 lay67 (r := 104) rfl dX12_says_43 ?_
  refine x_bipush hP dX12_says_46 (v := 36) rfl ?_
  refine x_iload_n hP dX12_says_48 rfl ?_
  refine x_iadd hP dX12_says_49 ?_
  refine x_aload_n hP dX12_says_50 rfl ?_
  refine x_getA hP fX12_128 lay67 (r := 104) rfl dX12_says_51 ?_
  refine x_bipush hP dX12_says_54 (v := 36) rfl ?_
  refine x_iload_n hP dX12_says_56 rfl ?_
  refine x_iadd hP dX12_says_57 ?_
  obtain ⟨v9, hiv9, hv9, hf⟩ := b_ag hf
  refine y_ald hP lay104 hiv9 hv9 dX12_says_58 ?_
  refine x_iload hP dX12_says_59 rfl ?_
  refine x_isub hP dX12_says_61 ?_
  refine x_iconst hP dX12_says_62 (v := 0) rfl ?_
  refine x_bipush hP dX12_says_63 (v := 99) rfl ?_
  obtain ⟨v11, hc10, hf⟩ := b_bd hf
  refine y_csi hP oX12_within lX12_367 [.int (v9 - t4.1), .int (0 : Int32), .int (99 : Int32)] [.int ((36 : Int32) + x2), .ref 104] rfl rfl rfl dX12_says_65 (t_X12_within (d := d - 1) (by omega) hc10) (by omega) ?_
  obtain ⟨M12, hiM12, hM12, hf⟩ := b_pg hf
  refine y_ast hP lay104 hiM12 hM12 dX12_says_68 ?_
  refine x_aload_n hP dX12_says_69 rfl ?_
  refine x_getA hP fX12_128 lay67 (r := 104) rfl dX12_says_70 ?_
  refine x_bipush hP dX12_says_73 (v := 41) rfl ?_
  refine x_iload_n hP dX12_says_75 rfl ?_
  refine x_iadd hP dX12_says_76 ?_
  refine x_dup2 hP dX12_says_77 rfl rfl ?_
  obtain ⟨v13, hiv13, hv13, hf⟩ := b_ag hf
  refine y_ald hP lay104 hiv13 hv13 dX12_says_78 ?_
  refine x_iconst hP dX12_says_79 (v := 1) rfl ?_
  refine x_iadd hP dX12_says_80 ?_
  obtain ⟨M14, hiM14, hM14, hf⟩ := b_pg hf
  refine y_ast hP lay104 hiM14 hM14 dX12_says_81 ?_
  refine x_aload_n hP dX12_says_82 rfl ?_
  refine x_getA hP fX12_128 lay67 (r := 104) rfl dX12_says_83 ?_
  refine x_bipush hP dX12_says_86 (v := 18) rfl ?_
  refine x_iload_n hP dX12_says_88 rfl ?_
  refine x_iadd hP dX12_says_89 ?_
  refine x_dup2 hP dX12_says_90 rfl rfl ?_
  obtain ⟨v15, hiv15, hv15, hf⟩ := b_ag hf
  refine y_ald hP lay104 hiv15 hv15 dX12_says_91 ?_
  refine x_iconst hP dX12_says_92 (v := 1) rfl ?_
  refine x_iadd hP dX12_says_93 ?_
  obtain ⟨M16, hiM16, hM16, hf⟩ := b_pg hf
  refine y_ast hP lay104 hiM16 hM16 dX12_says_94 ?_
  refine x_aload_n hP dX12_says_95 rfl ?_
  refine x_getA hP fX12_128 lay67 (r := 104) rfl dX12_says_96 ?_
  refine x_bipush hP dX12_says_99 (v := 24) rfl ?_
  refine x_iload_n hP dX12_says_101 rfl ?_
  refine x_iadd hP dX12_says_102 ?_
  refine x_aload_n hP dX12_says_103 rfl ?_
  refine x_getA hP fX12_128 lay67 (r := 104) rfl dX12_says_104 ?_
  refine x_bipush hP dX12_says_107 (v := 47) rfl ?_
  obtain ⟨v17, hiv17, hv17, hf⟩ := b_ag hf
  refine y_ald hP lay104 hiv17 hv17 dX12_says_109 ?_
  obtain ⟨M18, hiM18, hM18, hf⟩ := b_pg hf
  refine y_ast hP lay104 hiM18 hM18 dX12_says_110 ?_
  cases hf
  exact x_vret hP rfl dX12_says_111
def f_X12_hourGoes_L2 : Nat → Int32 → Mem → Option (Mem)
  | 0, _, _ => none
  | fu + 1, l1, M =>
    (ag M 82 2 (M.1 67 18)).bind fun v1 =>
    if v1 ≤ l1 then
      some M
    else
      (ag M 104 48 ((12 : Int32) + l1)).bind fun v3 =>
      (
        if v3 = 0 then
          (f_X12_coolsOf l1 M).bind fun t7 =>
          some (t7.1, t7.2)
        else
          some ((0 : Int32), M)
      ).bind fun t4 =>
      (pg t4.2 105 6 l1 t4.1).bind fun M8 =>
      (f_X12_doesLeave l1 M8).bind fun t10 =>
      (pz t10.2 106 6 l1 t10.1).bind fun M11 =>
      lt (l1 + 1 : Int32) fun v12 =>
      f_X12_hourGoes_L2 fu v12 M11
def f_X12_hourGoes_L116 : Nat → Int32 → Int32 → Mem → Option (Mem)
  | 0, _, _, _ => none
  | fu + 1, l1, l2, M =>
    (ag M 82 2 (M.1 67 18)).bind fun v26 =>
    if v26 ≤ l2 then
      some M
    else
      (ag M 104 48 ((6 : Int32) + l2)).bind fun v28 =>
      (ag M 105 6 l2).bind fun v29 =>
      (f_X12_within (v28 - v29) (0 : Int32) (999 : Int32)).bind fun v31 =>
      (pg M 104 48 ((6 : Int32) + l2) v31).bind fun M32 =>
      (ag M32 104 48 l2).bind fun v33 =>
      (
        if v33 = l1 then
          (ag M32 104 48 ((6 : Int32) + l2)).bind fun v36 =>
          (pg M32 104 48 ((6 : Int32) + l2) (v36 / (2 : Int32))).bind fun M37 =>
          some M37
        else
          some M32
      ).bind fun t34 =>
      (ag t34 106 6 l2).bind fun v38 =>
      if v38 = 0 then
        lt (l2 + 1 : Int32) fun v40 =>
        f_X12_hourGoes_L116 fu l1 v40 t34
      else
        (pg t34 104 48 ((12 : Int32) + l2) (1 : Int32)).bind fun M41 =>
        (pg M41 104 48 ((6 : Int32) + l2) (0 : Int32)).bind fun M42 =>
        lt (l2 + 1 : Int32) fun v43 =>
        f_X12_hourGoes_L116 fu l1 v43 M42
def f_X12_hourGoes (M : Mem) : Option (Mem) :=
  (f_X12_hourGoes_L2 FU (0 : Int32) M).bind fun t13 =>
  (
    if t13.1 67 56 = 0 then
      (ag t13 77 2 (t13.1 67 18)).bind fun v17 =>
      if v17 ≤ 0 then
        some (-1 : Int32)
      else
        (f_X12_isDraught t13).bind fun v20 =>
        if v20 = 0 then
          some (-1 : Int32)
        else
          (ag t13 104 48 (47 : Int32)).bind fun v22 =>
          (ag t13 77 2 (t13.1 67 18)).bind fun v23 =>
          (f_X12_lotOf (((4 : Int32) * v22) + (1 : Int32)) v23 t13).bind fun v25 =>
          some v25
    else
      some (-1 : Int32)
  ).bind fun t15 =>
  (f_X12_hourGoes_L116 FU t15 (0 : Int32) t13).bind fun t44 =>
  (ag t44 104 48 (47 : Int32)).bind fun v46 =>
  (pg t44 104 48 (47 : Int32) (v46 + (1 : Int32))).bind fun M47 =>
  some M47
set_option maxHeartbeats 1000000 in
set_option maxRecDepth 20000 in
theorem t_X12_hourGoes_L2 {g : GG} {d : Nat} {P : PT} {res : Option RS} (hd : 4 ≤ d)  (hP : IsM g iX12_hourGoes d res P) : ∀ (fu : Nat) (l1 : Int32) (M : Mem) (t : Mem), f_X12_hourGoes_L2 fu l1 M = some t → P 59 [some (.ref 67), none, none] [] LAY t → P 2 [some (.ref 67), some (.int l1), none] [] LAY M := by
  have hd1 : 1 ≤ d := by omega
  intro fu
  induction fu with
  | zero => intro l1 M t hf; simp [f_X12_hourGoes_L2] at hf
  | succ fu ih =>
    intro l1 M t hf hx
    rw [f_X12_hourGoes_L2] at hf
    refine x_iload_n hP dX12_hourGoes_2 rfl ?_
    refine x_aload_n hP dX12_hourGoes_3 rfl ?_
    refine x_getA hP fX12_61 lay67 (r := 82) rfl dX12_hourGoes_4 ?_
    refine x_aload_n hP dX12_hourGoes_7 rfl ?_
    refine x_getI hP fX12_251 lay67 dX12_hourGoes_8 ?_
    obtain ⟨v1, hiv1, hv1, hf⟩ := b_ag hf
    refine y_ald hP lay82 hiv1 hv1 dX12_hourGoes_11 ?_
    refine x_icmp_ge hP dX12_hourGoes_12 (tgt := 59) (by decide) (fun c2 => ?_) (fun c2 => ?_)
    · replace hf := p_t c2 hf
      refine x_drop hP [some (.ref 67), none, none] (And.intro rfl trivial) ?_
      cases hf
      exact hx
    · replace hf := p_f c2 hf
      refine x_aload_n hP dX12_hourGoes_15 rfl ?_
      refine x_getA hP fX12_131 lay67 (r := 105) rfl dX12_hourGoes_16 ?_
      refine x_iload_n hP dX12_hourGoes_19 rfl ?_
      refine x_aload_n hP dX12_hourGoes_20 rfl ?_
      refine x_getA hP fX12_128 lay67 (r := 104) rfl dX12_hourGoes_21 ?_
      refine x_bipush hP dX12_hourGoes_24 (v := 12) rfl ?_
      refine x_iload_n hP dX12_hourGoes_26 rfl ?_
      refine x_iadd hP dX12_hourGoes_27 ?_
      obtain ⟨v3, hiv3, hv3, hf⟩ := b_ag hf
      refine y_ald hP lay104 hiv3 hv3 dX12_hourGoes_28 ?_
      obtain ⟨t4, het4, hf⟩ := b_bd hf
      have hj4 : P 41 [some (.ref 67), some (.int l1), none] [.int t4.1, .int l1, .ref 105] LAY t4.2 := by
        obtain ⟨M8, hiM8, hM8, hf⟩ := b_pg hf
        refine y_ast hP lay105 hiM8 hM8 dX12_hourGoes_41 ?_
        refine x_aload_n hP dX12_hourGoes_42 rfl ?_
        refine x_getA hP fX12_134 lay67 (r := 106) rfl dX12_hourGoes_43 ?_
        refine x_iload_n hP dX12_hourGoes_46 rfl ?_
        refine x_aload_n hP dX12_hourGoes_47 rfl ?_
        refine x_iload_n hP dX12_hourGoes_48 rfl ?_
        obtain ⟨t10, hc9, hf⟩ := b_bd hf
        refine y_cvi hP oX12_doesLeave lX12_379 [.int l1] [.int l1, .ref 106] rfl rfl rfl lay67 dX12_hourGoes_49 (t_X12_doesLeave (d := d - 1) (by omega) hc9) (by omega) ?_
        obtain ⟨M11, hiM11, hM11, hf⟩ := b_pz hf
        refine y_zst hP lay106 hiM11 hM11 dX12_hourGoes_52 ?_
        obtain ⟨v12, hv12, hf⟩ := b_lt hf
        refine x_iinc hP (v := v12) (ls2 := [some (.ref 67), some (.int v12), none]) dX12_hourGoes_53 rfl (by rw [hv12]; rfl) rfl rfl ?_
        refine x_goto hP dX12_hourGoes_56 (tgt := 2) (by decide) ?_
        refine x_drop hP [some (.ref 67), some (.int v12), none] (And.intro rfl (And.intro rfl trivial)) ?_
        exact ih _ _ _ hf hx
      clear hf
      have hf := het4
      clear het4
      refine x_if_ne hP dX12_hourGoes_29 (tgt := 40) (by decide) (fun c5 => ?_) (fun c5 => ?_)
      · replace hf := p_f c5 hf
        refine x_iconst hP dX12_hourGoes_40 (v := 0) rfl ?_
        refine x_drop hP [some (.ref 67), some (.int l1), none] (And.intro rfl (And.intro rfl trivial)) ?_
        cases hf
        exact hj4
      · replace hf := p_t c5 hf
        refine x_aload_n hP dX12_hourGoes_32 rfl ?_
        refine x_iload_n hP dX12_hourGoes_33 rfl ?_
        obtain ⟨t7, hc6, hf⟩ := b_bd hf
        refine y_cvi hP oX12_coolsOf lX12_376 [.int l1] [.int l1, .ref 105] rfl rfl rfl lay67 dX12_hourGoes_34 (t_X12_coolsOf (d := d - 1) (by omega) hc6) (by omega) ?_
        refine x_goto hP dX12_hourGoes_37 (tgt := 41) (by decide) ?_
        refine x_drop hP [some (.ref 67), some (.int l1), none] (And.intro rfl (And.intro rfl trivial)) ?_
        cases hf
        exact hj4
set_option maxHeartbeats 1000000 in
set_option maxRecDepth 20000 in
theorem t_X12_hourGoes_L116 {g : GG} {d : Nat} {P : PT} {res : Option RS} (hd : 4 ≤ d)  (hP : IsM g iX12_hourGoes d res P) : ∀ (fu : Nat) (l1 : Int32) (l2 : Int32) (M : Mem) (t : Mem), f_X12_hourGoes_L116 fu l1 l2 M = some t → P 222 [some (.ref 67), none, none] [] LAY t → P 116 [some (.ref 67), some (.int l1), some (.int l2)] [] LAY M := by
  have hd1 : 1 ≤ d := by omega
  intro fu
  induction fu with
  | zero => intro l1 l2 M t hf; simp [f_X12_hourGoes_L116] at hf
  | succ fu ih =>
    intro l1 l2 M t hf hx
    rw [f_X12_hourGoes_L116] at hf
    refine x_iload_n hP dX12_hourGoes_116 rfl ?_
    refine x_aload_n hP dX12_hourGoes_117 rfl ?_
    refine x_getA hP fX12_61 lay67 (r := 82) rfl dX12_hourGoes_118 ?_
    refine x_aload_n hP dX12_hourGoes_121 rfl ?_
    refine x_getI hP fX12_251 lay67 dX12_hourGoes_122 ?_
    obtain ⟨v26, hiv26, hv26, hf⟩ := b_ag hf
    refine y_ald hP lay82 hiv26 hv26 dX12_hourGoes_125 ?_
    refine x_icmp_ge hP dX12_hourGoes_126 (tgt := 222) (by decide) (fun c27 => ?_) (fun c27 => ?_)
    · replace hf := p_t c27 hf
      refine x_drop hP [some (.ref 67), none, none] (And.intro rfl trivial) ?_
      cases hf
      exact hx
    · replace hf := p_f c27 hf
      refine x_aload_n hP dX12_hourGoes_129 rfl ?_
      refine x_getA hP fX12_128 lay67 (r := 104) rfl dX12_hourGoes_130 ?_
      refine x_bipush hP dX12_hourGoes_133 (v := 6) rfl ?_
      refine x_iload_n hP dX12_hourGoes_135 rfl ?_
      refine x_iadd hP dX12_hourGoes_136 ?_
      refine x_aload_n hP dX12_hourGoes_137 rfl ?_
      refine x_getA hP fX12_128 lay67 (r := 104) rfl dX12_hourGoes_138 ?_
      refine x_bipush hP dX12_hourGoes_141 (v := 6) rfl ?_
      refine x_iload_n hP dX12_hourGoes_143 rfl ?_
      refine x_iadd hP dX12_hourGoes_144 ?_
      obtain ⟨v28, hiv28, hv28, hf⟩ := b_ag hf
      refine y_ald hP lay104 hiv28 hv28 dX12_hourGoes_145 ?_
      refine x_aload_n hP dX12_hourGoes_146 rfl ?_
      refine x_getA hP fX12_131 lay67 (r := 105) rfl dX12_hourGoes_147 ?_
      refine x_iload_n hP dX12_hourGoes_150 rfl ?_
      obtain ⟨v29, hiv29, hv29, hf⟩ := b_ag hf
      refine y_ald hP lay105 hiv29 hv29 dX12_hourGoes_151 ?_
      refine x_isub hP dX12_hourGoes_152 ?_
      refine x_iconst hP dX12_hourGoes_153 (v := 0) rfl ?_
      refine x_sipush hP dX12_hourGoes_154 (v := 999) rfl ?_
      obtain ⟨v31, hc30, hf⟩ := b_bd hf
      refine y_csi hP oX12_within lX12_367 [.int (v28 - v29), .int (0 : Int32), .int (999 : Int32)] [.int ((6 : Int32) + l2), .ref 104] rfl rfl rfl dX12_hourGoes_157 (t_X12_within (d := d - 1) (by omega) hc30) (by omega) ?_
      obtain ⟨M32, hiM32, hM32, hf⟩ := b_pg hf
      refine y_ast hP lay104 hiM32 hM32 dX12_hourGoes_160 ?_
      refine x_aload_n hP dX12_hourGoes_161 rfl ?_
      refine x_getA hP fX12_128 lay67 (r := 104) rfl dX12_hourGoes_162 ?_
      refine x_iload_n hP dX12_hourGoes_165 rfl ?_
      obtain ⟨v33, hiv33, hv33, hf⟩ := b_ag hf
      refine y_ald hP lay104 hiv33 hv33 dX12_hourGoes_166 ?_
      refine x_iload_n hP dX12_hourGoes_167 rfl ?_
      obtain ⟨t34, het34, hf⟩ := b_bd hf
      have hj34 : P 184 [some (.ref 67), some (.int l1), some (.int l2)] [] LAY t34 := by
        refine x_aload_n hP dX12_hourGoes_184 rfl ?_
        refine x_getA hP fX12_134 lay67 (r := 106) rfl dX12_hourGoes_185 ?_
        refine x_iload_n hP dX12_hourGoes_188 rfl ?_
        obtain ⟨v38, hiv38, hv38, hf⟩ := b_ag hf
        refine y_zld hP lay106 hiv38 hv38 dX12_hourGoes_189 ?_
        refine x_if_ne hP dX12_hourGoes_190 (tgt := 196) (by decide) (fun c39 => ?_) (fun c39 => ?_)
        · replace hf := p_f c39 hf
          refine x_aload_n hP dX12_hourGoes_196 rfl ?_
          refine x_getA hP fX12_128 lay67 (r := 104) rfl dX12_hourGoes_197 ?_
          refine x_bipush hP dX12_hourGoes_200 (v := 12) rfl ?_
          refine x_iload_n hP dX12_hourGoes_202 rfl ?_
          refine x_iadd hP dX12_hourGoes_203 ?_
          refine x_iconst hP dX12_hourGoes_204 (v := 1) rfl ?_
          obtain ⟨M41, hiM41, hM41, hf⟩ := b_pg hf
          refine y_ast hP lay104 hiM41 hM41 dX12_hourGoes_205 ?_
          refine x_aload_n hP dX12_hourGoes_206 rfl ?_
          refine x_getA hP fX12_128 lay67 (r := 104) rfl dX12_hourGoes_207 ?_
          refine x_bipush hP dX12_hourGoes_210 (v := 6) rfl ?_
          refine x_iload_n hP dX12_hourGoes_212 rfl ?_
          refine x_iadd hP dX12_hourGoes_213 ?_
          refine x_iconst hP dX12_hourGoes_214 (v := 0) rfl ?_
          obtain ⟨M42, hiM42, hM42, hf⟩ := b_pg hf
          refine y_ast hP lay104 hiM42 hM42 dX12_hourGoes_215 ?_
          obtain ⟨v43, hv43, hf⟩ := b_lt hf
          refine x_iinc hP (v := v43) (ls2 := [some (.ref 67), some (.int l1), some (.int v43)]) dX12_hourGoes_216 rfl (by rw [hv43]; rfl) rfl rfl ?_
          refine x_goto hP dX12_hourGoes_219 (tgt := 116) (by decide) ?_
          refine x_drop hP [some (.ref 67), some (.int l1), some (.int v43)] (And.intro rfl (And.intro rfl (And.intro rfl trivial))) ?_
          exact ih _ _ _ _ hf hx
        · replace hf := p_t c39 hf
          refine x_goto hP dX12_hourGoes_193 (tgt := 216) (by decide) ?_
          obtain ⟨v40, hv40, hf⟩ := b_lt hf
          refine x_iinc hP (v := v40) (ls2 := [some (.ref 67), some (.int l1), some (.int v40)]) dX12_hourGoes_216 rfl (by rw [hv40]; rfl) rfl rfl ?_
          refine x_goto hP dX12_hourGoes_219 (tgt := 116) (by decide) ?_
          refine x_drop hP [some (.ref 67), some (.int l1), some (.int v40)] (And.intro rfl (And.intro rfl (And.intro rfl trivial))) ?_
          exact ih _ _ _ _ hf hx
      clear hf
      have hf := het34
      clear het34
      refine x_icmp_ne hP dX12_hourGoes_168 (tgt := 184) (by decide) (fun c35 => ?_) (fun c35 => ?_)
      · replace hf := p_f c35 hf
        refine x_drop hP [some (.ref 67), some (.int l1), some (.int l2)] (And.intro rfl (And.intro rfl (And.intro rfl trivial))) ?_
        cases hf
        exact hj34
      · replace hf := p_t c35 hf
        refine x_aload_n hP dX12_hourGoes_171 rfl ?_
        refine x_getA hP fX12_128 lay67 (r := 104) rfl dX12_hourGoes_172 ?_
        refine x_bipush hP dX12_hourGoes_175 (v := 6) rfl ?_
        refine x_iload_n hP dX12_hourGoes_177 rfl ?_
        refine x_iadd hP dX12_hourGoes_178 ?_
        refine x_dup2 hP dX12_hourGoes_179 rfl rfl ?_
        obtain ⟨v36, hiv36, hv36, hf⟩ := b_ag hf
        refine y_ald hP lay104 hiv36 hv36 dX12_hourGoes_180 ?_
        refine x_iconst hP dX12_hourGoes_181 (v := 2) rfl ?_
        refine x_idiv hP dX12_hourGoes_182 (by decide) ?_
        obtain ⟨M37, hiM37, hM37, hf⟩ := b_pg hf
        refine y_ast hP lay104 hiM37 hM37 dX12_hourGoes_183 ?_
        refine x_drop hP [some (.ref 67), some (.int l1), some (.int l2)] (And.intro rfl (And.intro rfl (And.intro rfl trivial))) ?_
        cases hf
        exact hj34
set_option maxHeartbeats 1000000 in
set_option maxRecDepth 20000 in
theorem t_X12_hourGoes {g : GG} {d : Nat} (hd : 4 ≤ d) {M : Mem} {M' : Mem} (hf : f_X12_hourGoes M = some M') : ExM g d iX12_hourGoes [.ref 67] LAY M (none, LAY, M') := by
  have hd1 : 1 ≤ d := by omega
  refine ExM.main pnX12 rfl (ls := [some (.ref 67), none, none]) rfl ?_
  intro P hP
  rw [f_X12_hourGoes] at hf
  refine x_iconst hP dX12_hourGoes_0 (v := 0) rfl ?_
  refine x_istore_n hP (ls2 := [some (.ref 67), some (.int (0 : Int32)), none]) dX12_hourGoes_1 rfl rfl rfl ?_
  refine x_drop hP [some (.ref 67), some (.int (0 : Int32)), none] (And.intro rfl (And.intro rfl trivial)) ?_
  obtain ⟨t13, hl14, hf⟩ := b_bd hf
  refine t_X12_hourGoes_L2 hd hP _ _ _ _ hl14 ?_
  refine x_aload_n hP dX12_hourGoes_59 rfl ?_
  refine x_getZ hP fX12_344 lay67 dX12_hourGoes_60 ?_
  obtain ⟨t15, het15, hf⟩ := b_bd hf
  have hj15 : P 113 [some (.ref 67), none, none] [.int t15] LAY t13 := by
    refine x_istore_n hP (ls2 := [some (.ref 67), some (.int t15), none]) dX12_hourGoes_113 rfl rfl rfl ?_
    refine x_iconst hP dX12_hourGoes_114 (v := 0) rfl ?_
    refine x_istore_n hP (ls2 := [some (.ref 67), some (.int t15), some (.int (0 : Int32))]) dX12_hourGoes_115 rfl rfl rfl ?_
    refine x_drop hP [some (.ref 67), some (.int t15), some (.int (0 : Int32))] (And.intro rfl (And.intro rfl (And.intro rfl trivial))) ?_
    obtain ⟨t44, hl45, hf⟩ := b_bd hf
    refine t_X12_hourGoes_L116 hd hP _ _ _ _ _ hl45 ?_
    refine x_aload_n hP dX12_hourGoes_222 rfl ?_
    refine x_getA hP fX12_128 lay67 (r := 104) rfl dX12_hourGoes_223 ?_
    refine x_bipush hP dX12_hourGoes_226 (v := 47) rfl ?_
    refine x_dup2 hP dX12_hourGoes_228 rfl rfl ?_
    obtain ⟨v46, hiv46, hv46, hf⟩ := b_ag hf
    refine y_ald hP lay104 hiv46 hv46 dX12_hourGoes_229 ?_
    refine x_iconst hP dX12_hourGoes_230 (v := 1) rfl ?_
    refine x_iadd hP dX12_hourGoes_231 ?_
    obtain ⟨M47, hiM47, hM47, hf⟩ := b_pg hf
    refine y_ast hP lay104 hiM47 hM47 dX12_hourGoes_232 ?_
    cases hf
    exact x_vret hP rfl dX12_hourGoes_233
  clear hf
  have hf := het15
  clear het15
  refine x_if_ne hP dX12_hourGoes_63 (tgt := 112) (by decide) (fun c16 => ?_) (fun c16 => ?_)
  · replace hf := p_f c16 hf
    refine x_iconst hP dX12_hourGoes_112 (v := (-1)) rfl ?_
    refine x_drop hP [some (.ref 67), none, none] (And.intro rfl trivial) ?_
    cases hf
    exact hj15
  · replace hf := p_t c16 hf
    refine x_aload_n hP dX12_hourGoes_66 rfl ?_
    refine x_getA hP fX12_46 lay67 (r := 77) rfl dX12_hourGoes_67 ?_
    refine x_aload_n hP dX12_hourGoes_70 rfl ?_
    refine x_getI hP fX12_251 lay67 dX12_hourGoes_71 ?_
    obtain ⟨v17, hiv17, hv17, hf⟩ := b_ag hf
    refine y_ald hP lay77 hiv17 hv17 dX12_hourGoes_74 ?_
    refine x_if_le hP dX12_hourGoes_75 (tgt := 112) (by decide) (fun c18 => ?_) (fun c18 => ?_)
    · replace hf := p_t c18 hf
      refine x_iconst hP dX12_hourGoes_112 (v := (-1)) rfl ?_
      refine x_drop hP [some (.ref 67), none, none] (And.intro rfl trivial) ?_
      cases hf
      exact hj15
    · replace hf := p_f c18 hf
      refine x_aload_n hP dX12_hourGoes_78 rfl ?_
      obtain ⟨v20, hc19, hf⟩ := b_bd hf
      refine y_cvi hP oX12_isDraught lX12_382 [] [] rfl rfl rfl lay67 dX12_hourGoes_79 (t_X12_isDraught (d := d - 1) (by omega) hc19) (by omega) ?_
      refine x_if_eq hP dX12_hourGoes_82 (tgt := 112) (by decide) (fun c21 => ?_) (fun c21 => ?_)
      · replace hf := p_t c21 hf
        refine x_iconst hP dX12_hourGoes_112 (v := (-1)) rfl ?_
        refine x_drop hP [some (.ref 67), none, none] (And.intro rfl trivial) ?_
        cases hf
        exact hj15
      · replace hf := p_f c21 hf
        refine x_aload_n hP dX12_hourGoes_85 rfl ?_
        refine x_iconst hP dX12_hourGoes_86 (v := 4) rfl ?_
        refine x_aload_n hP dX12_hourGoes_87 rfl ?_
        refine x_getA hP fX12_128 lay67 (r := 104) rfl dX12_hourGoes_88 ?_
        refine x_bipush hP dX12_hourGoes_91 (v := 47) rfl ?_
        obtain ⟨v22, hiv22, hv22, hf⟩ := b_ag hf
        refine y_ald hP lay104 hiv22 hv22 dX12_hourGoes_93 ?_
        refine x_imul hP dX12_hourGoes_94 ?_
        refine x_iconst hP dX12_hourGoes_95 (v := 1) rfl ?_
        refine x_iadd hP dX12_hourGoes_96 ?_
        refine x_aload_n hP dX12_hourGoes_97 rfl ?_
        refine x_getA hP fX12_46 lay67 (r := 77) rfl dX12_hourGoes_98 ?_
        refine x_aload_n hP dX12_hourGoes_101 rfl ?_
        refine x_getI hP fX12_251 lay67 dX12_hourGoes_102 ?_
        obtain ⟨v23, hiv23, hv23, hf⟩ := b_ag hf
        refine y_ald hP lay77 hiv23 hv23 dX12_hourGoes_105 ?_
        obtain ⟨v25, hc24, hf⟩ := b_bd hf
        refine y_cvi hP oX12_lotOf lX12_354 [.int (((4 : Int32) * v22) + (1 : Int32)), .int v23] [] rfl rfl rfl lay67 dX12_hourGoes_106 (t_X12_lotOf (d := d - 1) (by omega) hc24) (by omega) ?_
        refine x_goto hP dX12_hourGoes_109 (tgt := 113) (by decide) ?_
        refine x_drop hP [some (.ref 67), none, none] (And.intro rfl trivial) ?_
        cases hf
        exact hj15
def f_X12_goes_L2 : Nat → Int32 → Int32 → Mem → Option (Mem)
  | 0, _, _, _ => none
  | fu + 1, l1, l2, M =>
    if l1 ≤ l2 then
      some M
    else
      (f_X12_hourGoes M).bind fun M3 =>
      lt (l2 + 1 : Int32) fun v4 =>
      f_X12_goes_L2 fu l1 v4 M3
def f_X12_goes (x1 : Int32) (M : Mem) : Option (Mem) :=
  (f_X12_goes_L2 FU x1 (0 : Int32) M).bind fun t5 =>
  some t5
set_option maxHeartbeats 1000000 in
set_option maxRecDepth 20000 in
theorem t_X12_goes_L2 {g : GG} {d : Nat} {P : PT} {res : Option RS} (hd : 5 ≤ d)  (hP : IsM g iX12_goes d res P) : ∀ (fu : Nat) (l1 : Int32) (l2 : Int32) (M : Mem) (t : Mem), f_X12_goes_L2 fu l1 l2 M = some t → P 17 [none, none, none] [] LAY t → P 2 [some (.ref 67), some (.int l1), some (.int l2)] [] LAY M := by
  have hd1 : 1 ≤ d := by omega
  intro fu
  induction fu with
  | zero => intro l1 l2 M t hf; simp [f_X12_goes_L2] at hf
  | succ fu ih =>
    intro l1 l2 M t hf hx
    rw [f_X12_goes_L2] at hf
    refine x_iload_n hP dX12_goes_2 rfl ?_
    refine x_iload_n hP dX12_goes_3 rfl ?_
    refine x_icmp_ge hP dX12_goes_4 (tgt := 17) (by decide) (fun c1 => ?_) (fun c1 => ?_)
    · replace hf := p_t c1 hf
      refine x_drop hP [none, none, none] trivial ?_
      cases hf
      exact hx
    · replace hf := p_f c1 hf
      refine x_aload_n hP dX12_goes_7 rfl ?_
      obtain ⟨M3, hc2, hf⟩ := b_bd hf
      refine y_cvv hP oX12_hourGoes lX12_386 [] [] rfl rfl rfl lay67 dX12_goes_8 (t_X12_hourGoes (d := d - 1) (by omega) hc2) (by omega) ?_
      obtain ⟨v4, hv4, hf⟩ := b_lt hf
      refine x_iinc hP (v := v4) (ls2 := [some (.ref 67), some (.int l1), some (.int v4)]) dX12_goes_11 rfl (by rw [hv4]; rfl) rfl rfl ?_
      refine x_goto hP dX12_goes_14 (tgt := 2) (by decide) ?_
      refine x_drop hP [some (.ref 67), some (.int l1), some (.int v4)] (And.intro rfl (And.intro rfl (And.intro rfl trivial))) ?_
      exact ih _ _ _ _ hf hx
set_option maxHeartbeats 1000000 in
set_option maxRecDepth 20000 in
theorem t_X12_goes {g : GG} {d : Nat} (hd : 5 ≤ d) {x1 : Int32} {M : Mem} {M' : Mem} (hf : f_X12_goes x1 M = some M') : ExM g d iX12_goes [.ref 67, .int x1] LAY M (none, LAY, M') := by
  have hd1 : 1 ≤ d := by omega
  refine ExM.main pnX12 rfl (ls := [some (.ref 67), some (.int x1), none]) rfl ?_
  intro P hP
  rw [f_X12_goes] at hf
  refine x_iconst hP dX12_goes_0 (v := 0) rfl ?_
  refine x_istore_n hP (ls2 := [some (.ref 67), some (.int x1), some (.int (0 : Int32))]) dX12_goes_1 rfl rfl rfl ?_
  refine x_drop hP [some (.ref 67), some (.int x1), some (.int (0 : Int32))] (And.intro rfl (And.intro rfl (And.intro rfl trivial))) ?_
  obtain ⟨t5, hl6, hf⟩ := b_bd hf
  refine t_X12_goes_L2 hd hP _ _ _ _ _ hl6 ?_
  cases hf
  exact x_vret hP rfl dX12_goes_17
def f_X12_lightAt_L4 : Nat → Int32 → Int32 → Int32 → Mem → Option (Int32)
  | 0, _, _, _, _ => none
  | fu + 1, l1, l2, l3, M =>
    (ag M 82 2 (M.1 67 18)).bind fun v1 =>
    if v1 ≤ l3 then
      some l2
    else
      (ag M 104 48 l3).bind fun v3 =>
      if v3 = l1 then
        (ag M 104 48 ((6 : Int32) + l3)).bind fun v5 =>
        lt (l2 + v5 : Int32) fun v6 =>
        lt (l3 + 1 : Int32) fun v7 =>
        f_X12_lightAt_L4 fu l1 v6 v7 M
      else
        lt (l3 + 1 : Int32) fun v8 =>
        f_X12_lightAt_L4 fu l1 l2 v8 M
def f_X12_lightAt (x1 : Int32) (M : Mem) : Option (Int32) :=
  (f_X12_lightAt_L4 FU x1 (0 : Int32) (0 : Int32) M).bind fun t9 =>
  some t9
set_option maxHeartbeats 1000000 in
set_option maxRecDepth 20000 in
theorem t_X12_lightAt_L4 {g : GG} {d : Nat} {P : PT} {res : Option RS} (hd : 1 ≤ d)  (hP : IsM g iX12_lightAt d res P) : ∀ (fu : Nat) (l1 : Int32) (l2 : Int32) (l3 : Int32) (M : Mem) (t : Int32), f_X12_lightAt_L4 fu l1 l2 l3 M = some t → P 45 [none, none, some (.int t), none] [] LAY M → P 4 [some (.ref 67), some (.int l1), some (.int l2), some (.int l3)] [] LAY M := by
  have hd1 : 1 ≤ d := by omega
  intro fu
  induction fu with
  | zero => intro l1 l2 l3 M t hf; simp [f_X12_lightAt_L4] at hf
  | succ fu ih =>
    intro l1 l2 l3 M t hf hx
    rw [f_X12_lightAt_L4] at hf
    refine x_iload_n hP dX12_lightAt_4 rfl ?_
    refine x_aload_n hP dX12_lightAt_5 rfl ?_
    refine x_getA hP fX12_61 lay67 (r := 82) rfl dX12_lightAt_6 ?_
    refine x_aload_n hP dX12_lightAt_9 rfl ?_
    refine x_getI hP fX12_251 lay67 dX12_lightAt_10 ?_
    obtain ⟨v1, hiv1, hv1, hf⟩ := b_ag hf
    refine y_ald hP lay82 hiv1 hv1 dX12_lightAt_13 ?_
    refine x_icmp_ge hP dX12_lightAt_14 (tgt := 45) (by decide) (fun c2 => ?_) (fun c2 => ?_)
    · replace hf := p_t c2 hf
      refine x_drop hP [none, none, some (.int l2), none] (And.intro rfl trivial) ?_
      cases hf
      exact hx
    · replace hf := p_f c2 hf
      refine x_aload_n hP dX12_lightAt_17 rfl ?_
      refine x_getA hP fX12_128 lay67 (r := 104) rfl dX12_lightAt_18 ?_
      refine x_iload_n hP dX12_lightAt_21 rfl ?_
      obtain ⟨v3, hiv3, hv3, hf⟩ := b_ag hf
      refine y_ald hP lay104 hiv3 hv3 dX12_lightAt_22 ?_
      refine x_iload_n hP dX12_lightAt_23 rfl ?_
      refine x_icmp_ne hP dX12_lightAt_24 (tgt := 39) (by decide) (fun c4 => ?_) (fun c4 => ?_)
      · replace hf := p_f c4 hf
        obtain ⟨v8, hv8, hf⟩ := b_lt hf
        refine x_iinc hP (v := v8) (ls2 := [some (.ref 67), some (.int l1), some (.int l2), some (.int v8)]) dX12_lightAt_39 rfl (by rw [hv8]; rfl) rfl rfl ?_
        refine x_goto hP dX12_lightAt_42 (tgt := 4) (by decide) ?_
        refine x_drop hP [some (.ref 67), some (.int l1), some (.int l2), some (.int v8)] (And.intro rfl (And.intro rfl (And.intro rfl (And.intro rfl trivial)))) ?_
        exact ih _ _ _ _ _ hf hx
      · replace hf := p_t c4 hf
        refine x_iload_n hP dX12_lightAt_27 rfl ?_
        refine x_aload_n hP dX12_lightAt_28 rfl ?_
        refine x_getA hP fX12_128 lay67 (r := 104) rfl dX12_lightAt_29 ?_
        refine x_bipush hP dX12_lightAt_32 (v := 6) rfl ?_
        refine x_iload_n hP dX12_lightAt_34 rfl ?_
        refine x_iadd hP dX12_lightAt_35 ?_
        obtain ⟨v5, hiv5, hv5, hf⟩ := b_ag hf
        refine y_ald hP lay104 hiv5 hv5 dX12_lightAt_36 ?_
        refine x_iadd hP dX12_lightAt_37 ?_
        obtain ⟨v6, hv6, hf⟩ := b_lt hf
        refine y_nmI hv6 ?_
        refine x_istore_n hP (ls2 := [some (.ref 67), some (.int l1), some (.int v6), some (.int l3)]) dX12_lightAt_38 rfl rfl rfl ?_
        obtain ⟨v7, hv7, hf⟩ := b_lt hf
        refine x_iinc hP (v := v7) (ls2 := [some (.ref 67), some (.int l1), some (.int v6), some (.int v7)]) dX12_lightAt_39 rfl (by rw [hv7]; rfl) rfl rfl ?_
        refine x_goto hP dX12_lightAt_42 (tgt := 4) (by decide) ?_
        refine x_drop hP [some (.ref 67), some (.int l1), some (.int v6), some (.int v7)] (And.intro rfl (And.intro rfl (And.intro rfl (And.intro rfl trivial)))) ?_
        exact ih _ _ _ _ _ hf hx
set_option maxHeartbeats 1000000 in
set_option maxRecDepth 20000 in
theorem t_X12_lightAt {g : GG} {d : Nat} (hd : 1 ≤ d) {x1 : Int32} {M : Mem} {r : Int32} (hf : f_X12_lightAt x1 M = some r) : ExM g d iX12_lightAt [.ref 67, .int x1] LAY M (some (.int r), LAY, M) := by
  have hd1 : 1 ≤ d := by omega
  refine ExM.main pnX12 rfl (ls := [some (.ref 67), some (.int x1), none, none]) rfl ?_
  intro P hP
  rw [f_X12_lightAt] at hf
  refine x_iconst hP dX12_lightAt_0 (v := 0) rfl ?_
  refine x_istore_n hP (ls2 := [some (.ref 67), some (.int x1), some (.int (0 : Int32)), none]) dX12_lightAt_1 rfl rfl rfl ?_
  refine x_iconst hP dX12_lightAt_2 (v := 0) rfl ?_
  refine x_istore_n hP (ls2 := [some (.ref 67), some (.int x1), some (.int (0 : Int32)), some (.int (0 : Int32))]) dX12_lightAt_3 rfl rfl rfl ?_
  refine x_drop hP [some (.ref 67), some (.int x1), some (.int (0 : Int32)), some (.int (0 : Int32))] (And.intro rfl (And.intro rfl (And.intro rfl (And.intro rfl trivial)))) ?_
  obtain ⟨t9, hl10, hf⟩ := b_bd hf
  refine t_X12_lightAt_L4 hd hP _ _ _ _ _ _ hl10 ?_
  refine x_iload_n hP dX12_lightAt_45 rfl ?_
  cases hf
  exact x_iret hP rfl dX12_lightAt_46
def f_X12_needsOf (x1 : Int32) (M : Mem) : Option (Int32) :=
  lt (((10 : Int32) * (M.1 67 18)) + x1 : Int32) fun v1 =>
  (ag M 81 20 v1).bind fun v2 =>
  (ag M 79 20 v1).bind fun v3 =>
  (f_X12_lightAt v3 M).bind fun v5 =>
  (ag M 80 20 v1).bind fun v6 =>
  (f_X12_lightAt v6 M).bind fun v8 =>
  lt ((v2 - v5) - v8 : Int32) fun v9 =>
  if 0 ≤ v9 then
    some v9
  else
    some (0 : Int32)
set_option maxHeartbeats 1000000 in
set_option maxRecDepth 20000 in
theorem t_X12_needsOf {g : GG} {d : Nat} (hd : 2 ≤ d) {x1 : Int32} {M : Mem} {r : Int32} (hf : f_X12_needsOf x1 M = some r) : ExM g d iX12_needsOf [.ref 67, .int x1] LAY M (some (.int r), LAY, M) := by
  have hd1 : 1 ≤ d := by omega
  refine ExM.main pnX12 rfl (ls := [some (.ref 67), some (.int x1), none, none]) rfl ?_
  intro P hP
  rw [f_X12_needsOf] at hf
  refine x_bipush hP dX12_needsOf_0 (v := 10) rfl ?_
  refine x_aload_n hP dX12_needsOf_2 rfl ?_
  refine x_getI hP fX12_251 lay67 dX12_needsOf_3 ?_
  refine x_imul hP dX12_needsOf_6 ?_
  refine x_iload_n hP dX12_needsOf_7 rfl ?_
  refine x_iadd hP dX12_needsOf_8 ?_
  obtain ⟨v1, hv1, hf⟩ := b_lt hf
  refine y_nmI hv1 ?_
  refine x_istore_n hP (ls2 := [some (.ref 67), some (.int x1), some (.int v1), none]) dX12_needsOf_9 rfl rfl rfl ?_
  refine x_aload_n hP dX12_needsOf_10 rfl ?_
  refine x_getA hP fX12_58 lay67 (r := 81) rfl dX12_needsOf_11 ?_
  refine x_iload_n hP dX12_needsOf_14 rfl ?_
  obtain ⟨v2, hiv2, hv2, hf⟩ := b_ag hf
  refine y_ald hP lay81 hiv2 hv2 dX12_needsOf_15 ?_
  refine x_aload_n hP dX12_needsOf_16 rfl ?_
  refine x_aload_n hP dX12_needsOf_17 rfl ?_
  refine x_getA hP fX12_52 lay67 (r := 79) rfl dX12_needsOf_18 ?_
  refine x_iload_n hP dX12_needsOf_21 rfl ?_
  obtain ⟨v3, hiv3, hv3, hf⟩ := b_ag hf
  refine y_ald hP lay79 hiv3 hv3 dX12_needsOf_22 ?_
  obtain ⟨v5, hc4, hf⟩ := b_bd hf
  refine y_cvi hP oX12_lightAt lX12_389 [.int v3] [.int v2] rfl rfl rfl lay67 dX12_needsOf_23 (t_X12_lightAt (d := d - 1) (by omega) hc4) (by omega) ?_
  refine x_isub hP dX12_needsOf_26 ?_
  refine x_aload_n hP dX12_needsOf_27 rfl ?_
  refine x_aload_n hP dX12_needsOf_28 rfl ?_
  refine x_getA hP fX12_55 lay67 (r := 80) rfl dX12_needsOf_29 ?_
  refine x_iload_n hP dX12_needsOf_32 rfl ?_
  obtain ⟨v6, hiv6, hv6, hf⟩ := b_ag hf
  refine y_ald hP lay80 hiv6 hv6 dX12_needsOf_33 ?_
  obtain ⟨v8, hc7, hf⟩ := b_bd hf
  refine y_cvi hP oX12_lightAt lX12_389 [.int v6] [.int (v2 - v5)] rfl rfl rfl lay67 dX12_needsOf_34 (t_X12_lightAt (d := d - 1) (by omega) hc7) (by omega) ?_
  refine x_isub hP dX12_needsOf_37 ?_
  obtain ⟨v9, hv9, hf⟩ := b_lt hf
  refine y_nmI hv9 ?_
  refine x_istore_n hP (ls2 := [some (.ref 67), some (.int x1), some (.int v1), some (.int v9)]) dX12_needsOf_38 rfl rfl rfl ?_
  refine x_iload_n hP dX12_needsOf_39 rfl ?_
  refine x_if_ge hP dX12_needsOf_40 (tgt := 47) (by decide) (fun c10 => ?_) (fun c10 => ?_)
  · replace hf := p_t c10 hf
    refine x_iload_n hP dX12_needsOf_47 rfl ?_
    cases hf
    exact x_iret hP rfl dX12_needsOf_48
  · replace hf := p_f c10 hf
    refine x_iconst hP dX12_needsOf_43 (v := 0) rfl ?_
    refine x_goto hP dX12_needsOf_44 (tgt := 48) (by decide) ?_
    cases hf
    exact x_iret hP rfl dX12_needsOf_48
def f_X12_litBits_L2 : Nat → Int32 → Mem → Option (Mem)
  | 0, _, _ => none
  | fu + 1, l1, M =>
    (ag M 77 2 (M.1 67 18)).bind fun v1 =>
    if v1 ≤ l1 then
      some M
    else
      (f_X12_lightAt l1 M).bind fun v4 =>
      (pg M 107 12 l1 v4).bind fun M5 =>
      lt (l1 + 1 : Int32) fun v6 =>
      f_X12_litBits_L2 fu v6 M5
def f_X12_litBits_L36 : Nat → Int32 → Int32 → Mem → Option (Int32)
  | 0, _, _, _ => none
  | fu + 1, l1, l2, M =>
    (ag M 78 2 (M.1 67 18)).bind fun v9 =>
    if v9 ≤ l2 then
      some l1
    else
      (ag M 79 20 (((10 : Int32) * (M.1 67 18)) + l2)).bind fun v11 =>
      (ag M 107 12 v11).bind fun v12 =>
      (ag M 80 20 (((10 : Int32) * (M.1 67 18)) + l2)).bind fun v13 =>
      (ag M 107 12 v13).bind fun v14 =>
      (ag M 81 20 (((10 : Int32) * (M.1 67 18)) + l2)).bind fun v15 =>
      if v12 + v14 < v15 then
        lt (l2 + 1 : Int32) fun v17 =>
        f_X12_litBits_L36 fu l1 v17 M
      else
        lt (l1 ||| ((1 : Int32) <<< (l2 &&& 31)) : Int32) fun v18 =>
        lt (l2 + 1 : Int32) fun v19 =>
        f_X12_litBits_L36 fu v18 v19 M
def f_X12_litBits (M : Mem) : Option (Int32 × Mem) :=
  (f_X12_litBits_L2 FU (0 : Int32) M).bind fun t7 =>
  (f_X12_litBits_L36 FU (0 : Int32) (0 : Int32) t7).bind fun t20 =>
  some (t20, t7)
set_option maxHeartbeats 1000000 in
set_option maxRecDepth 20000 in
theorem t_X12_litBits_L2 {g : GG} {d : Nat} {P : PT} {res : Option RS} (hd : 2 ≤ d)  (hP : IsM g iX12_litBits d res P) : ∀ (fu : Nat) (l1 : Int32) (M : Mem) (t : Mem), f_X12_litBits_L2 fu l1 M = some t → P 32 [some (.ref 67), none, none] [] LAY t → P 2 [some (.ref 67), some (.int l1), none] [] LAY M := by
  have hd1 : 1 ≤ d := by omega
  intro fu
  induction fu with
  | zero => intro l1 M t hf; simp [f_X12_litBits_L2] at hf
  | succ fu ih =>
    intro l1 M t hf hx
    rw [f_X12_litBits_L2] at hf
    refine x_iload_n hP dX12_litBits_2 rfl ?_
    refine x_aload_n hP dX12_litBits_3 rfl ?_
    refine x_getA hP fX12_46 lay67 (r := 77) rfl dX12_litBits_4 ?_
    refine x_aload_n hP dX12_litBits_7 rfl ?_
    refine x_getI hP fX12_251 lay67 dX12_litBits_8 ?_
    obtain ⟨v1, hiv1, hv1, hf⟩ := b_ag hf
    refine y_ald hP lay77 hiv1 hv1 dX12_litBits_11 ?_
    refine x_icmp_ge hP dX12_litBits_12 (tgt := 32) (by decide) (fun c2 => ?_) (fun c2 => ?_)
    · replace hf := p_t c2 hf
      refine x_drop hP [some (.ref 67), none, none] (And.intro rfl trivial) ?_
      cases hf
      exact hx
    · replace hf := p_f c2 hf
      refine x_aload_n hP dX12_litBits_15 rfl ?_
      refine x_getA hP fX12_137 lay67 (r := 107) rfl dX12_litBits_16 ?_
      refine x_iload_n hP dX12_litBits_19 rfl ?_
      refine x_aload_n hP dX12_litBits_20 rfl ?_
      refine x_iload_n hP dX12_litBits_21 rfl ?_
      obtain ⟨v4, hc3, hf⟩ := b_bd hf
      refine y_cvi hP oX12_lightAt lX12_389 [.int l1] [.int l1, .ref 107] rfl rfl rfl lay67 dX12_litBits_22 (t_X12_lightAt (d := d - 1) (by omega) hc3) (by omega) ?_
      obtain ⟨M5, hiM5, hM5, hf⟩ := b_pg hf
      refine y_ast hP lay107 hiM5 hM5 dX12_litBits_25 ?_
      obtain ⟨v6, hv6, hf⟩ := b_lt hf
      refine x_iinc hP (v := v6) (ls2 := [some (.ref 67), some (.int v6), none]) dX12_litBits_26 rfl (by rw [hv6]; rfl) rfl rfl ?_
      refine x_goto hP dX12_litBits_29 (tgt := 2) (by decide) ?_
      refine x_drop hP [some (.ref 67), some (.int v6), none] (And.intro rfl (And.intro rfl trivial)) ?_
      exact ih _ _ _ hf hx
set_option maxHeartbeats 1000000 in
set_option maxRecDepth 20000 in
theorem t_X12_litBits_L36 {g : GG} {d : Nat} {P : PT} {res : Option RS} (hd : 2 ≤ d)  (hP : IsM g iX12_litBits d res P) : ∀ (fu : Nat) (l1 : Int32) (l2 : Int32) (M : Mem) (t : Int32), f_X12_litBits_L36 fu l1 l2 M = some t → P 117 [none, some (.int t), none] [] LAY M → P 36 [some (.ref 67), some (.int l1), some (.int l2)] [] LAY M := by
  have hd1 : 1 ≤ d := by omega
  intro fu
  induction fu with
  | zero => intro l1 l2 M t hf; simp [f_X12_litBits_L36] at hf
  | succ fu ih =>
    intro l1 l2 M t hf hx
    rw [f_X12_litBits_L36] at hf
    refine x_iload_n hP dX12_litBits_36 rfl ?_
    refine x_aload_n hP dX12_litBits_37 rfl ?_
    refine x_getA hP fX12_49 lay67 (r := 78) rfl dX12_litBits_38 ?_
    refine x_aload_n hP dX12_litBits_41 rfl ?_
    refine x_getI hP fX12_251 lay67 dX12_litBits_42 ?_
    obtain ⟨v9, hiv9, hv9, hf⟩ := b_ag hf
    refine y_ald hP lay78 hiv9 hv9 dX12_litBits_45 ?_
    refine x_icmp_ge hP dX12_litBits_46 (tgt := 117) (by decide) (fun c10 => ?_) (fun c10 => ?_)
    · replace hf := p_t c10 hf
      refine x_drop hP [none, some (.int l1), none] (And.intro rfl trivial) ?_
      cases hf
      exact hx
    · replace hf := p_f c10 hf
      refine x_aload_n hP dX12_litBits_49 rfl ?_
      refine x_getA hP fX12_137 lay67 (r := 107) rfl dX12_litBits_50 ?_
      refine x_aload_n hP dX12_litBits_53 rfl ?_
      refine x_getA hP fX12_52 lay67 (r := 79) rfl dX12_litBits_54 ?_
      refine x_bipush hP dX12_litBits_57 (v := 10) rfl ?_
      refine x_aload_n hP dX12_litBits_59 rfl ?_
      refine x_getI hP fX12_251 lay67 dX12_litBits_60 ?_
      refine x_imul hP dX12_litBits_63 ?_
      refine x_iload_n hP dX12_litBits_64 rfl ?_
      refine x_iadd hP dX12_litBits_65 ?_
      obtain ⟨v11, hiv11, hv11, hf⟩ := b_ag hf
      refine y_ald hP lay79 hiv11 hv11 dX12_litBits_66 ?_
      obtain ⟨v12, hiv12, hv12, hf⟩ := b_ag hf
      refine y_ald hP lay107 hiv12 hv12 dX12_litBits_67 ?_
      refine x_aload_n hP dX12_litBits_68 rfl ?_
      refine x_getA hP fX12_137 lay67 (r := 107) rfl dX12_litBits_69 ?_
      refine x_aload_n hP dX12_litBits_72 rfl ?_
      refine x_getA hP fX12_55 lay67 (r := 80) rfl dX12_litBits_73 ?_
      refine x_bipush hP dX12_litBits_76 (v := 10) rfl ?_
      refine x_aload_n hP dX12_litBits_78 rfl ?_
      refine x_getI hP fX12_251 lay67 dX12_litBits_79 ?_
      refine x_imul hP dX12_litBits_82 ?_
      refine x_iload_n hP dX12_litBits_83 rfl ?_
      refine x_iadd hP dX12_litBits_84 ?_
      obtain ⟨v13, hiv13, hv13, hf⟩ := b_ag hf
      refine y_ald hP lay80 hiv13 hv13 dX12_litBits_85 ?_
      obtain ⟨v14, hiv14, hv14, hf⟩ := b_ag hf
      refine y_ald hP lay107 hiv14 hv14 dX12_litBits_86 ?_
      refine x_iadd hP dX12_litBits_87 ?_
      refine x_aload_n hP dX12_litBits_88 rfl ?_
      refine x_getA hP fX12_58 lay67 (r := 81) rfl dX12_litBits_89 ?_
      refine x_bipush hP dX12_litBits_92 (v := 10) rfl ?_
      refine x_aload_n hP dX12_litBits_94 rfl ?_
      refine x_getI hP fX12_251 lay67 dX12_litBits_95 ?_
      refine x_imul hP dX12_litBits_98 ?_
      refine x_iload_n hP dX12_litBits_99 rfl ?_
      refine x_iadd hP dX12_litBits_100 ?_
      obtain ⟨v15, hiv15, hv15, hf⟩ := b_ag hf
      refine y_ald hP lay81 hiv15 hv15 dX12_litBits_101 ?_
      refine x_icmp_lt hP dX12_litBits_102 (tgt := 111) (by decide) (fun c16 => ?_) (fun c16 => ?_)
      · replace hf := p_t c16 hf
        obtain ⟨v17, hv17, hf⟩ := b_lt hf
        refine x_iinc hP (v := v17) (ls2 := [some (.ref 67), some (.int l1), some (.int v17)]) dX12_litBits_111 rfl (by rw [hv17]; rfl) rfl rfl ?_
        refine x_goto hP dX12_litBits_114 (tgt := 36) (by decide) ?_
        refine x_drop hP [some (.ref 67), some (.int l1), some (.int v17)] (And.intro rfl (And.intro rfl (And.intro rfl trivial))) ?_
        exact ih _ _ _ _ hf hx
      · replace hf := p_f c16 hf
        refine x_iload_n hP dX12_litBits_105 rfl ?_
        refine x_iconst hP dX12_litBits_106 (v := 1) rfl ?_
        refine x_iload_n hP dX12_litBits_107 rfl ?_
        refine x_ishl hP dX12_litBits_108 ?_
        refine x_ior hP dX12_litBits_109 ?_
        obtain ⟨v18, hv18, hf⟩ := b_lt hf
        refine y_nmI hv18 ?_
        refine x_istore_n hP (ls2 := [some (.ref 67), some (.int v18), some (.int l2)]) dX12_litBits_110 rfl rfl rfl ?_
        obtain ⟨v19, hv19, hf⟩ := b_lt hf
        refine x_iinc hP (v := v19) (ls2 := [some (.ref 67), some (.int v18), some (.int v19)]) dX12_litBits_111 rfl (by rw [hv19]; rfl) rfl rfl ?_
        refine x_goto hP dX12_litBits_114 (tgt := 36) (by decide) ?_
        refine x_drop hP [some (.ref 67), some (.int v18), some (.int v19)] (And.intro rfl (And.intro rfl (And.intro rfl trivial))) ?_
        exact ih _ _ _ _ hf hx
set_option maxHeartbeats 1000000 in
set_option maxRecDepth 20000 in
theorem t_X12_litBits {g : GG} {d : Nat} (hd : 2 ≤ d) {M : Mem} {r : Int32} {M' : Mem} (hf : f_X12_litBits M = some (r, M')) : ExM g d iX12_litBits [.ref 67] LAY M (some (.int r), LAY, M') := by
  have hd1 : 1 ≤ d := by omega
  refine ExM.main pnX12 rfl (ls := [some (.ref 67), none, none]) rfl ?_
  intro P hP
  rw [f_X12_litBits] at hf
  refine x_iconst hP dX12_litBits_0 (v := 0) rfl ?_
  refine x_istore_n hP (ls2 := [some (.ref 67), some (.int (0 : Int32)), none]) dX12_litBits_1 rfl rfl rfl ?_
  refine x_drop hP [some (.ref 67), some (.int (0 : Int32)), none] (And.intro rfl (And.intro rfl trivial)) ?_
  obtain ⟨t7, hl8, hf⟩ := b_bd hf
  refine t_X12_litBits_L2 hd hP _ _ _ _ hl8 ?_
  refine x_iconst hP dX12_litBits_32 (v := 0) rfl ?_
  refine x_istore_n hP (ls2 := [some (.ref 67), some (.int (0 : Int32)), none]) dX12_litBits_33 rfl rfl rfl ?_
  refine x_iconst hP dX12_litBits_34 (v := 0) rfl ?_
  refine x_istore_n hP (ls2 := [some (.ref 67), some (.int (0 : Int32)), some (.int (0 : Int32))]) dX12_litBits_35 rfl rfl rfl ?_
  refine x_drop hP [some (.ref 67), some (.int (0 : Int32)), some (.int (0 : Int32))] (And.intro rfl (And.intro rfl (And.intro rfl trivial))) ?_
  obtain ⟨t20, hl21, hf⟩ := b_bd hf
  refine t_X12_litBits_L36 hd hP _ _ _ _ _ hl21 ?_
  refine x_iload_n hP dX12_litBits_117 rfl ?_
  cases hf
  exact x_iret hP rfl dX12_litBits_118
def f_X12_outAt_L4 : Nat → Int32 → Int32 → Int32 → Mem → Option (Int32)
  | 0, _, _, _, _ => none
  | fu + 1, l1, l2, l3, M =>
    (ag M 82 2 (M.1 67 18)).bind fun v1 =>
    if v1 ≤ l3 then
      some l2
    else
      (ag M 104 48 ((12 : Int32) + l3)).bind fun v3 =>
      if v3 = 0 then
        (ag M 104 48 l3).bind fun v5 =>
        if v5 = l1 then
          lt (l2 ||| ((1 : Int32) <<< (l3 &&& 31)) : Int32) fun v7 =>
          lt (l3 + 1 : Int32) fun v8 =>
          f_X12_outAt_L4 fu l1 v7 v8 M
        else
          lt (l3 + 1 : Int32) fun v9 =>
          f_X12_outAt_L4 fu l1 l2 v9 M
      else
        lt (l3 + 1 : Int32) fun v10 =>
        f_X12_outAt_L4 fu l1 l2 v10 M
def f_X12_outAt (x1 : Int32) (M : Mem) : Option (Int32) :=
  (f_X12_outAt_L4 FU x1 (0 : Int32) (0 : Int32) M).bind fun t11 =>
  some t11
set_option maxHeartbeats 1000000 in
set_option maxRecDepth 20000 in
theorem t_X12_outAt_L4 {g : GG} {d : Nat} {P : PT} {res : Option RS} (hd : 1 ≤ d)  (hP : IsM g iX12_outAt d res P) : ∀ (fu : Nat) (l1 : Int32) (l2 : Int32) (l3 : Int32) (M : Mem) (t : Int32), f_X12_outAt_L4 fu l1 l2 l3 M = some t → P 51 [none, none, some (.int t), none] [] LAY M → P 4 [some (.ref 67), some (.int l1), some (.int l2), some (.int l3)] [] LAY M := by
  have hd1 : 1 ≤ d := by omega
  intro fu
  induction fu with
  | zero => intro l1 l2 l3 M t hf; simp [f_X12_outAt_L4] at hf
  | succ fu ih =>
    intro l1 l2 l3 M t hf hx
    rw [f_X12_outAt_L4] at hf
    refine x_iload_n hP dX12_outAt_4 rfl ?_
    refine x_aload_n hP dX12_outAt_5 rfl ?_
    refine x_getA hP fX12_61 lay67 (r := 82) rfl dX12_outAt_6 ?_
    refine x_aload_n hP dX12_outAt_9 rfl ?_
    refine x_getI hP fX12_251 lay67 dX12_outAt_10 ?_
    obtain ⟨v1, hiv1, hv1, hf⟩ := b_ag hf
    refine y_ald hP lay82 hiv1 hv1 dX12_outAt_13 ?_
    refine x_icmp_ge hP dX12_outAt_14 (tgt := 51) (by decide) (fun c2 => ?_) (fun c2 => ?_)
    · replace hf := p_t c2 hf
      refine x_drop hP [none, none, some (.int l2), none] (And.intro rfl trivial) ?_
      cases hf
      exact hx
    · replace hf := p_f c2 hf
      refine x_aload_n hP dX12_outAt_17 rfl ?_
      refine x_getA hP fX12_128 lay67 (r := 104) rfl dX12_outAt_18 ?_
      refine x_bipush hP dX12_outAt_21 (v := 12) rfl ?_
      refine x_iload_n hP dX12_outAt_23 rfl ?_
      refine x_iadd hP dX12_outAt_24 ?_
      obtain ⟨v3, hiv3, hv3, hf⟩ := b_ag hf
      refine y_ald hP lay104 hiv3 hv3 dX12_outAt_25 ?_
      refine x_if_ne hP dX12_outAt_26 (tgt := 45) (by decide) (fun c4 => ?_) (fun c4 => ?_)
      · replace hf := p_f c4 hf
        obtain ⟨v10, hv10, hf⟩ := b_lt hf
        refine x_iinc hP (v := v10) (ls2 := [some (.ref 67), some (.int l1), some (.int l2), some (.int v10)]) dX12_outAt_45 rfl (by rw [hv10]; rfl) rfl rfl ?_
        refine x_goto hP dX12_outAt_48 (tgt := 4) (by decide) ?_
        refine x_drop hP [some (.ref 67), some (.int l1), some (.int l2), some (.int v10)] (And.intro rfl (And.intro rfl (And.intro rfl (And.intro rfl trivial)))) ?_
        exact ih _ _ _ _ _ hf hx
      · replace hf := p_t c4 hf
        refine x_aload_n hP dX12_outAt_29 rfl ?_
        refine x_getA hP fX12_128 lay67 (r := 104) rfl dX12_outAt_30 ?_
        refine x_iload_n hP dX12_outAt_33 rfl ?_
        obtain ⟨v5, hiv5, hv5, hf⟩ := b_ag hf
        refine y_ald hP lay104 hiv5 hv5 dX12_outAt_34 ?_
        refine x_iload_n hP dX12_outAt_35 rfl ?_
        refine x_icmp_ne hP dX12_outAt_36 (tgt := 45) (by decide) (fun c6 => ?_) (fun c6 => ?_)
        · replace hf := p_f c6 hf
          obtain ⟨v9, hv9, hf⟩ := b_lt hf
          refine x_iinc hP (v := v9) (ls2 := [some (.ref 67), some (.int l1), some (.int l2), some (.int v9)]) dX12_outAt_45 rfl (by rw [hv9]; rfl) rfl rfl ?_
          refine x_goto hP dX12_outAt_48 (tgt := 4) (by decide) ?_
          refine x_drop hP [some (.ref 67), some (.int l1), some (.int l2), some (.int v9)] (And.intro rfl (And.intro rfl (And.intro rfl (And.intro rfl trivial)))) ?_
          exact ih _ _ _ _ _ hf hx
        · replace hf := p_t c6 hf
          refine x_iload_n hP dX12_outAt_39 rfl ?_
          refine x_iconst hP dX12_outAt_40 (v := 1) rfl ?_
          refine x_iload_n hP dX12_outAt_41 rfl ?_
          refine x_ishl hP dX12_outAt_42 ?_
          refine x_ior hP dX12_outAt_43 ?_
          obtain ⟨v7, hv7, hf⟩ := b_lt hf
          refine y_nmI hv7 ?_
          refine x_istore_n hP (ls2 := [some (.ref 67), some (.int l1), some (.int v7), some (.int l3)]) dX12_outAt_44 rfl rfl rfl ?_
          obtain ⟨v8, hv8, hf⟩ := b_lt hf
          refine x_iinc hP (v := v8) (ls2 := [some (.ref 67), some (.int l1), some (.int v7), some (.int v8)]) dX12_outAt_45 rfl (by rw [hv8]; rfl) rfl rfl ?_
          refine x_goto hP dX12_outAt_48 (tgt := 4) (by decide) ?_
          refine x_drop hP [some (.ref 67), some (.int l1), some (.int v7), some (.int v8)] (And.intro rfl (And.intro rfl (And.intro rfl (And.intro rfl trivial)))) ?_
          exact ih _ _ _ _ _ hf hx
set_option maxHeartbeats 1000000 in
set_option maxRecDepth 20000 in
theorem t_X12_outAt {g : GG} {d : Nat} (hd : 1 ≤ d) {x1 : Int32} {M : Mem} {r : Int32} (hf : f_X12_outAt x1 M = some r) : ExM g d iX12_outAt [.ref 67, .int x1] LAY M (some (.int r), LAY, M) := by
  have hd1 : 1 ≤ d := by omega
  refine ExM.main pnX12 rfl (ls := [some (.ref 67), some (.int x1), none, none]) rfl ?_
  intro P hP
  rw [f_X12_outAt] at hf
  refine x_iconst hP dX12_outAt_0 (v := 0) rfl ?_
  refine x_istore_n hP (ls2 := [some (.ref 67), some (.int x1), some (.int (0 : Int32)), none]) dX12_outAt_1 rfl rfl rfl ?_
  refine x_iconst hP dX12_outAt_2 (v := 0) rfl ?_
  refine x_istore_n hP (ls2 := [some (.ref 67), some (.int x1), some (.int (0 : Int32)), some (.int (0 : Int32))]) dX12_outAt_3 rfl rfl rfl ?_
  refine x_drop hP [some (.ref 67), some (.int x1), some (.int (0 : Int32)), some (.int (0 : Int32))] (And.intro rfl (And.intro rfl (And.intro rfl (And.intro rfl trivial)))) ?_
  obtain ⟨t11, hl12, hf⟩ := b_bd hf
  refine t_X12_outAt_L4 hd hP _ _ _ _ _ _ hl12 ?_
  refine x_iload_n hP dX12_outAt_51 rfl ?_
  cases hf
  exact x_iret hP rfl dX12_outAt_52
def f_X12_isEnd (x1 : Int32) (x2 : Int32) (M : Mem) : Option (Int32) :=
  (ag M 79 20 (((10 : Int32) * (M.1 67 18)) + x1)).bind fun v1 =>
  if v1 = x2 then
    some (1 : Int32)
  else
    (ag M 80 20 (((10 : Int32) * (M.1 67 18)) + x1)).bind fun v3 =>
    if v3 = x2 then
      some (1 : Int32)
    else
      some (0 : Int32)
set_option maxHeartbeats 1000000 in
set_option maxRecDepth 20000 in
theorem t_X12_isEnd {g : GG} {d : Nat} (hd : 1 ≤ d) {x1 : Int32} {x2 : Int32} {M : Mem} {r : Int32} (hf : f_X12_isEnd x1 x2 M = some r) : ExM g d iX12_isEnd [.ref 67, .int x1, .int x2] LAY M (some (.int r), LAY, M) := by
  have hd1 : 1 ≤ d := by omega
  refine ExM.main pnX12 rfl (ls := [some (.ref 67), some (.int x1), some (.int x2)]) rfl ?_
  intro P hP
  rw [f_X12_isEnd] at hf
  refine x_aload_n hP dX12_isEnd_0 rfl ?_
  refine x_getA hP fX12_52 lay67 (r := 79) rfl dX12_isEnd_1 ?_
  refine x_bipush hP dX12_isEnd_4 (v := 10) rfl ?_
  refine x_aload_n hP dX12_isEnd_6 rfl ?_
  refine x_getI hP fX12_251 lay67 dX12_isEnd_7 ?_
  refine x_imul hP dX12_isEnd_10 ?_
  refine x_iload_n hP dX12_isEnd_11 rfl ?_
  refine x_iadd hP dX12_isEnd_12 ?_
  obtain ⟨v1, hiv1, hv1, hf⟩ := b_ag hf
  refine y_ald hP lay79 hiv1 hv1 dX12_isEnd_13 ?_
  refine x_iload_n hP dX12_isEnd_14 rfl ?_
  refine x_icmp_eq hP dX12_isEnd_15 (tgt := 36) (by decide) (fun c2 => ?_) (fun c2 => ?_)
  · replace hf := p_t c2 hf
    refine x_iconst hP dX12_isEnd_36 (v := 1) rfl ?_
    refine x_goto hP dX12_isEnd_37 (tgt := 41) (by decide) ?_
    cases hf
    exact x_zret hP rfl (Or.inr rfl) dX12_isEnd_41
  · replace hf := p_f c2 hf
    refine x_aload_n hP dX12_isEnd_18 rfl ?_
    refine x_getA hP fX12_55 lay67 (r := 80) rfl dX12_isEnd_19 ?_
    refine x_bipush hP dX12_isEnd_22 (v := 10) rfl ?_
    refine x_aload_n hP dX12_isEnd_24 rfl ?_
    refine x_getI hP fX12_251 lay67 dX12_isEnd_25 ?_
    refine x_imul hP dX12_isEnd_28 ?_
    refine x_iload_n hP dX12_isEnd_29 rfl ?_
    refine x_iadd hP dX12_isEnd_30 ?_
    obtain ⟨v3, hiv3, hv3, hf⟩ := b_ag hf
    refine y_ald hP lay80 hiv3 hv3 dX12_isEnd_31 ?_
    refine x_iload_n hP dX12_isEnd_32 rfl ?_
    refine x_icmp_ne hP dX12_isEnd_33 (tgt := 40) (by decide) (fun c4 => ?_) (fun c4 => ?_)
    · replace hf := p_f c4 hf
      refine x_iconst hP dX12_isEnd_40 (v := 0) rfl ?_
      cases hf
      exact x_zret hP rfl (Or.inl rfl) dX12_isEnd_41
    · replace hf := p_t c4 hf
      refine x_iconst hP dX12_isEnd_36 (v := 1) rfl ?_
      refine x_goto hP dX12_isEnd_37 (tgt := 41) (by decide) ?_
      cases hf
      exact x_zret hP rfl (Or.inr rfl) dX12_isEnd_41
def f_X12_streetsAt_L4 : Nat → Int32 → Int32 → Int32 → Mem → Option (Int32)
  | 0, _, _, _, _ => none
  | fu + 1, l1, l2, l3, M =>
    (ag M 78 2 (M.1 67 18)).bind fun v1 =>
    if v1 ≤ l3 then
      some l2
    else
      (f_X12_isEnd l3 l1 M).bind fun v4 =>
      if v4 = 0 then
        lt (l3 + 1 : Int32) fun v6 =>
        f_X12_streetsAt_L4 fu l1 l2 v6 M
      else
        lt (l2 ||| ((1 : Int32) <<< (l3 &&& 31)) : Int32) fun v7 =>
        lt (l3 + 1 : Int32) fun v8 =>
        f_X12_streetsAt_L4 fu l1 v7 v8 M
def f_X12_streetsAt (x1 : Int32) (M : Mem) : Option (Int32) :=
  (f_X12_streetsAt_L4 FU x1 (0 : Int32) (0 : Int32) M).bind fun t9 =>
  some t9
set_option maxHeartbeats 1000000 in
set_option maxRecDepth 20000 in
theorem t_X12_streetsAt_L4 {g : GG} {d : Nat} {P : PT} {res : Option RS} (hd : 2 ≤ d)  (hP : IsM g iX12_streetsAt d res P) : ∀ (fu : Nat) (l1 : Int32) (l2 : Int32) (l3 : Int32) (M : Mem) (t : Int32), f_X12_streetsAt_L4 fu l1 l2 l3 M = some t → P 38 [none, none, some (.int t), none] [] LAY M → P 4 [some (.ref 67), some (.int l1), some (.int l2), some (.int l3)] [] LAY M := by
  have hd1 : 1 ≤ d := by omega
  intro fu
  induction fu with
  | zero => intro l1 l2 l3 M t hf; simp [f_X12_streetsAt_L4] at hf
  | succ fu ih =>
    intro l1 l2 l3 M t hf hx
    rw [f_X12_streetsAt_L4] at hf
    refine x_iload_n hP dX12_streetsAt_4 rfl ?_
    refine x_aload_n hP dX12_streetsAt_5 rfl ?_
    refine x_getA hP fX12_49 lay67 (r := 78) rfl dX12_streetsAt_6 ?_
    refine x_aload_n hP dX12_streetsAt_9 rfl ?_
    refine x_getI hP fX12_251 lay67 dX12_streetsAt_10 ?_
    obtain ⟨v1, hiv1, hv1, hf⟩ := b_ag hf
    refine y_ald hP lay78 hiv1 hv1 dX12_streetsAt_13 ?_
    refine x_icmp_ge hP dX12_streetsAt_14 (tgt := 38) (by decide) (fun c2 => ?_) (fun c2 => ?_)
    · replace hf := p_t c2 hf
      refine x_drop hP [none, none, some (.int l2), none] (And.intro rfl trivial) ?_
      cases hf
      exact hx
    · replace hf := p_f c2 hf
      refine x_aload_n hP dX12_streetsAt_17 rfl ?_
      refine x_iload_n hP dX12_streetsAt_18 rfl ?_
      refine x_iload_n hP dX12_streetsAt_19 rfl ?_
      obtain ⟨v4, hc3, hf⟩ := b_bd hf
      refine y_cvi hP oX12_isEnd lX12_401 [.int l3, .int l1] [] rfl rfl rfl lay67 dX12_streetsAt_20 (t_X12_isEnd (d := d - 1) (by omega) hc3) (by omega) ?_
      refine x_if_eq hP dX12_streetsAt_23 (tgt := 32) (by decide) (fun c5 => ?_) (fun c5 => ?_)
      · replace hf := p_t c5 hf
        obtain ⟨v6, hv6, hf⟩ := b_lt hf
        refine x_iinc hP (v := v6) (ls2 := [some (.ref 67), some (.int l1), some (.int l2), some (.int v6)]) dX12_streetsAt_32 rfl (by rw [hv6]; rfl) rfl rfl ?_
        refine x_goto hP dX12_streetsAt_35 (tgt := 4) (by decide) ?_
        refine x_drop hP [some (.ref 67), some (.int l1), some (.int l2), some (.int v6)] (And.intro rfl (And.intro rfl (And.intro rfl (And.intro rfl trivial)))) ?_
        exact ih _ _ _ _ _ hf hx
      · replace hf := p_f c5 hf
        refine x_iload_n hP dX12_streetsAt_26 rfl ?_
        refine x_iconst hP dX12_streetsAt_27 (v := 1) rfl ?_
        refine x_iload_n hP dX12_streetsAt_28 rfl ?_
        refine x_ishl hP dX12_streetsAt_29 ?_
        refine x_ior hP dX12_streetsAt_30 ?_
        obtain ⟨v7, hv7, hf⟩ := b_lt hf
        refine y_nmI hv7 ?_
        refine x_istore_n hP (ls2 := [some (.ref 67), some (.int l1), some (.int v7), some (.int l3)]) dX12_streetsAt_31 rfl rfl rfl ?_
        obtain ⟨v8, hv8, hf⟩ := b_lt hf
        refine x_iinc hP (v := v8) (ls2 := [some (.ref 67), some (.int l1), some (.int v7), some (.int v8)]) dX12_streetsAt_32 rfl (by rw [hv8]; rfl) rfl rfl ?_
        refine x_goto hP dX12_streetsAt_35 (tgt := 4) (by decide) ?_
        refine x_drop hP [some (.ref 67), some (.int l1), some (.int v7), some (.int v8)] (And.intro rfl (And.intro rfl (And.intro rfl (And.intro rfl trivial)))) ?_
        exact ih _ _ _ _ _ hf hx
set_option maxHeartbeats 1000000 in
set_option maxRecDepth 20000 in
theorem t_X12_streetsAt {g : GG} {d : Nat} (hd : 2 ≤ d) {x1 : Int32} {M : Mem} {r : Int32} (hf : f_X12_streetsAt x1 M = some r) : ExM g d iX12_streetsAt [.ref 67, .int x1] LAY M (some (.int r), LAY, M) := by
  have hd1 : 1 ≤ d := by omega
  refine ExM.main pnX12 rfl (ls := [some (.ref 67), some (.int x1), none, none]) rfl ?_
  intro P hP
  rw [f_X12_streetsAt] at hf
  refine x_iconst hP dX12_streetsAt_0 (v := 0) rfl ?_
  refine x_istore_n hP (ls2 := [some (.ref 67), some (.int x1), some (.int (0 : Int32)), none]) dX12_streetsAt_1 rfl rfl rfl ?_
  refine x_iconst hP dX12_streetsAt_2 (v := 0) rfl ?_
  refine x_istore_n hP (ls2 := [some (.ref 67), some (.int x1), some (.int (0 : Int32)), some (.int (0 : Int32))]) dX12_streetsAt_3 rfl rfl rfl ?_
  refine x_drop hP [some (.ref 67), some (.int x1), some (.int (0 : Int32)), some (.int (0 : Int32))] (And.intro rfl (And.intro rfl (And.intro rfl (And.intro rfl trivial)))) ?_
  obtain ⟨t9, hl10, hf⟩ := b_bd hf
  refine t_X12_streetsAt_L4 hd hP _ _ _ _ _ _ hl10 ?_
  refine x_iload_n hP dX12_streetsAt_38 rfl ?_
  cases hf
  exact x_iret hP rfl dX12_streetsAt_39
def f_X12_corner (x1 : Int32) (x2 : Int32) (M : Mem) : Option (Int32 × Mem) :=
  (f_X12_isCorner x1 M).bind fun v2 =>
  if v2 = 0 then
    some ((-1 : Int32), M)
  else
    (f_X12_copies M).bind fun M5 =>
    if x2 = 0 then
      (f_X12_lightAt x1 M5).bind fun v8 =>
      some (v8, M5)
    else
    if x2 = 1 then
      (f_X12_outAt x1 M5).bind fun v11 =>
      some (v11, M5)
    else
    if x2 = 2 then
      (ag M5 104 48 (46 : Int32)).bind fun v13 =>
      if v13 = x1 then
        some ((1 : Int32), M5)
      else
        some ((0 : Int32), M5)
    else
    if x2 = 3 then
      (f_X12_streetsAt x1 M5).bind fun v17 =>
      some (v17, M5)
    else
    some ((-1 : Int32), M5)
set_option maxHeartbeats 1000000 in
set_option maxRecDepth 20000 in
theorem t_X12_corner {g : GG} {d : Nat} (hd : 3 ≤ d) {x1 : Int32} {x2 : Int32} {M : Mem} {r : Int32} {M' : Mem} (hf : f_X12_corner x1 x2 M = some (r, M')) : ExM g d iX12_corner [.ref 67, .int x1, .int x2] LAY M (some (.int r), LAY, M') := by
  have hd1 : 1 ≤ d := by omega
  refine ExM.main pnX12 rfl (ls := [some (.ref 67), some (.int x1), some (.int x2)]) rfl ?_
  intro P hP
  rw [f_X12_corner] at hf
  refine x_aload_n hP dX12_corner_0 rfl ?_
  refine x_iload_n hP dX12_corner_1 rfl ?_
  obtain ⟨v2, hc1, hf⟩ := b_bd hf
  refine y_cvi hP oX12_isCorner lX12_392 [.int x1] [] rfl rfl rfl lay67 dX12_corner_2 (t_X12_isCorner (d := d - 1) (by omega) hc1) (by omega) ?_
  refine x_if_ne hP dX12_corner_5 (tgt := 10) (by decide) (fun c3 => ?_) (fun c3 => ?_)
  · replace hf := p_f c3 hf
    refine x_aload_n hP dX12_corner_10 rfl ?_
    obtain ⟨M5, hc4, hf⟩ := b_bd hf
    refine y_cvv hP oX12_copies lX12_347 [] [] rfl rfl rfl lay67 dX12_corner_11 (t_X12_copies (d := d - 1) (by omega) hc4) (by omega) ?_
    refine x_iload_n hP dX12_corner_14 rfl ?_
    by_cases c6 : x2 = 0
    · refine x_tswE hP dX12_corner_15 c6 (by decide) (by decide) (off := 29) rfl (tgt := 44) (by decide) ?_
      replace hf := p_t c6 hf
      refine x_aload_n hP dX12_corner_44 rfl ?_
      refine x_iload_n hP dX12_corner_45 rfl ?_
      obtain ⟨v8, hc7, hf⟩ := b_bd hf
      refine y_cvi hP oX12_lightAt lX12_389 [.int x1] [] rfl rfl rfl lay67 dX12_corner_46 (t_X12_lightAt (d := d - 1) (by omega) hc7) (by omega) ?_
      cases hf
      exact x_iret hP rfl dX12_corner_49
    replace hf := p_f c6 hf
    by_cases c9 : x2 = 1
    · refine x_tswE hP dX12_corner_15 c9 (by decide) (by decide) (off := 35) rfl (tgt := 50) (by decide) ?_
      replace hf := p_t c9 hf
      refine x_aload_n hP dX12_corner_50 rfl ?_
      refine x_iload_n hP dX12_corner_51 rfl ?_
      obtain ⟨v11, hc10, hf⟩ := b_bd hf
      refine y_cvi hP oX12_outAt lX12_395 [.int x1] [] rfl rfl rfl lay67 dX12_corner_52 (t_X12_outAt (d := d - 1) (by omega) hc10) (by omega) ?_
      cases hf
      exact x_iret hP rfl dX12_corner_55
    replace hf := p_f c9 hf
    by_cases c12 : x2 = 2
    · refine x_tswE hP dX12_corner_15 c12 (by decide) (by decide) (off := 41) rfl (tgt := 56) (by decide) ?_
      replace hf := p_t c12 hf
      refine x_aload_n hP dX12_corner_56 rfl ?_
      refine x_getA hP fX12_128 lay67 (r := 104) rfl dX12_corner_57 ?_
      refine x_bipush hP dX12_corner_60 (v := 46) rfl ?_
      obtain ⟨v13, hiv13, hv13, hf⟩ := b_ag hf
      refine y_ald hP lay104 hiv13 hv13 dX12_corner_62 ?_
      refine x_iload_n hP dX12_corner_63 rfl ?_
      refine x_icmp_ne hP dX12_corner_64 (tgt := 71) (by decide) (fun c14 => ?_) (fun c14 => ?_)
      · replace hf := p_f c14 hf
        refine x_iconst hP dX12_corner_71 (v := 0) rfl ?_
        cases hf
        exact x_iret hP rfl dX12_corner_72
      · replace hf := p_t c14 hf
        refine x_iconst hP dX12_corner_67 (v := 1) rfl ?_
        refine x_goto hP dX12_corner_68 (tgt := 72) (by decide) ?_
        cases hf
        exact x_iret hP rfl dX12_corner_72
    replace hf := p_f c12 hf
    by_cases c15 : x2 = 3
    · refine x_tswE hP dX12_corner_15 c15 (by decide) (by decide) (off := 58) rfl (tgt := 73) (by decide) ?_
      replace hf := p_t c15 hf
      refine x_aload_n hP dX12_corner_73 rfl ?_
      refine x_iload_n hP dX12_corner_74 rfl ?_
      obtain ⟨v17, hc16, hf⟩ := b_bd hf
      refine y_cvi hP oX12_streetsAt lX12_398 [.int x1] [] rfl rfl rfl lay67 dX12_corner_75 (t_X12_streetsAt (d := d - 1) (by omega) hc16) (by omega) ?_
      cases hf
      exact x_iret hP rfl dX12_corner_78
    replace hf := p_f c15 hf
    refine x_tswD hP dX12_corner_15 [0, 1, 2, 3] (And.intro (neI c6) (And.intro (neI c9) (And.intro (neI c12) (And.intro (neI c15) trivial)))) (by decide) (by decide) (tgt := 79) (by decide) ?_
    refine x_iconst hP dX12_corner_79 (v := (-1)) rfl ?_
    cases hf
    exact x_iret hP rfl dX12_corner_80
  · replace hf := p_t c3 hf
    refine x_iconst hP dX12_corner_8 (v := (-1)) rfl ?_
    cases hf
    exact x_iret hP rfl dX12_corner_9
def f_X12_otherEnd (x1 : Int32) (x2 : Int32) (M : Mem) : Option (Int32) :=
  (ag M 79 20 (((10 : Int32) * (M.1 67 18)) + x1)).bind fun v1 =>
  (ag M 80 20 (((10 : Int32) * (M.1 67 18)) + x1)).bind fun v2 =>
  some ((v1 + v2) - x2)
set_option maxHeartbeats 1000000 in
set_option maxRecDepth 20000 in
theorem t_X12_otherEnd {g : GG} {d : Nat} (hd : 1 ≤ d) {x1 : Int32} {x2 : Int32} {M : Mem} {r : Int32} (hf : f_X12_otherEnd x1 x2 M = some r) : ExM g d iX12_otherEnd [.ref 67, .int x1, .int x2] LAY M (some (.int r), LAY, M) := by
  have hd1 : 1 ≤ d := by omega
  refine ExM.main pnX12 rfl (ls := [some (.ref 67), some (.int x1), some (.int x2)]) rfl ?_
  intro P hP
  rw [f_X12_otherEnd] at hf
  refine x_aload_n hP dX12_otherEnd_0 rfl ?_
  refine x_getA hP fX12_52 lay67 (r := 79) rfl dX12_otherEnd_1 ?_
  refine x_bipush hP dX12_otherEnd_4 (v := 10) rfl ?_
  refine x_aload_n hP dX12_otherEnd_6 rfl ?_
  refine x_getI hP fX12_251 lay67 dX12_otherEnd_7 ?_
  refine x_imul hP dX12_otherEnd_10 ?_
  refine x_iload_n hP dX12_otherEnd_11 rfl ?_
  refine x_iadd hP dX12_otherEnd_12 ?_
  obtain ⟨v1, hiv1, hv1, hf⟩ := b_ag hf
  refine y_ald hP lay79 hiv1 hv1 dX12_otherEnd_13 ?_
  refine x_aload_n hP dX12_otherEnd_14 rfl ?_
  refine x_getA hP fX12_55 lay67 (r := 80) rfl dX12_otherEnd_15 ?_
  refine x_bipush hP dX12_otherEnd_18 (v := 10) rfl ?_
  refine x_aload_n hP dX12_otherEnd_20 rfl ?_
  refine x_getI hP fX12_251 lay67 dX12_otherEnd_21 ?_
  refine x_imul hP dX12_otherEnd_24 ?_
  refine x_iload_n hP dX12_otherEnd_25 rfl ?_
  refine x_iadd hP dX12_otherEnd_26 ?_
  obtain ⟨v2, hiv2, hv2, hf⟩ := b_ag hf
  refine y_ald hP lay80 hiv2 hv2 dX12_otherEnd_27 ?_
  refine x_iadd hP dX12_otherEnd_28 ?_
  refine x_iload_n hP dX12_otherEnd_29 rfl ?_
  refine x_isub hP dX12_otherEnd_30 ?_
  cases hf
  exact x_iret hP rfl dX12_otherEnd_31
def f_X12_street (x1 : Int32) (x2 : Int32) (M : Mem) : Option (Int32 × Mem) :=
  (f_X12_isStreet x1 M).bind fun v2 =>
  if v2 = 0 then
    some ((-1 : Int32), M)
  else
    (f_X12_copies M).bind fun M5 =>
    if x2 = 0 then
      (ag M5 79 20 (((10 : Int32) * (M5.1 67 18)) + x1)).bind fun v7 =>
      some (v7, M5)
    else
    if x2 = 1 then
      (ag M5 80 20 (((10 : Int32) * (M5.1 67 18)) + x1)).bind fun v9 =>
      some (v9, M5)
    else
    if x2 = 2 then
      (ag M5 81 20 (((10 : Int32) * (M5.1 67 18)) + x1)).bind fun v11 =>
      some (v11, M5)
    else
    if x2 = 3 then
      (f_X12_needsOf x1 M5).bind fun v14 =>
      if v14 = 0 then
        some ((1 : Int32), M5)
      else
        some ((0 : Int32), M5)
    else
    if x2 = 4 then
      (f_X12_needsOf x1 M5).bind fun v18 =>
      some (v18, M5)
    else
    some ((-1 : Int32), M5)
set_option maxHeartbeats 1000000 in
set_option maxRecDepth 20000 in
theorem t_X12_street {g : GG} {d : Nat} (hd : 3 ≤ d) {x1 : Int32} {x2 : Int32} {M : Mem} {r : Int32} {M' : Mem} (hf : f_X12_street x1 x2 M = some (r, M')) : ExM g d iX12_street [.ref 67, .int x1, .int x2] LAY M (some (.int r), LAY, M') := by
  have hd1 : 1 ≤ d := by omega
  refine ExM.main pnX12 rfl (ls := [some (.ref 67), some (.int x1), some (.int x2)]) rfl ?_
  intro P hP
  rw [f_X12_street] at hf
  refine x_aload_n hP dX12_street_0 rfl ?_
  refine x_iload_n hP dX12_street_1 rfl ?_
  obtain ⟨v2, hc1, hf⟩ := b_bd hf
  refine y_cvi hP oX12_isStreet lX12_405 [.int x1] [] rfl rfl rfl lay67 dX12_street_2 (t_X12_isStreet (d := d - 1) (by omega) hc1) (by omega) ?_
  refine x_if_ne hP dX12_street_5 (tgt := 10) (by decide) (fun c3 => ?_) (fun c3 => ?_)
  · replace hf := p_f c3 hf
    refine x_aload_n hP dX12_street_10 rfl ?_
    obtain ⟨M5, hc4, hf⟩ := b_bd hf
    refine y_cvv hP oX12_copies lX12_347 [] [] rfl rfl rfl lay67 dX12_street_11 (t_X12_copies (d := d - 1) (by omega) hc4) (by omega) ?_
    refine x_iload_n hP dX12_street_14 rfl ?_
    by_cases c6 : x2 = 0
    · refine x_tswE hP dX12_street_15 c6 (by decide) (by decide) (off := 33) rfl (tgt := 48) (by decide) ?_
      replace hf := p_t c6 hf
      refine x_aload_n hP dX12_street_48 rfl ?_
      refine x_getA hP fX12_52 lay67 (r := 79) rfl dX12_street_49 ?_
      refine x_bipush hP dX12_street_52 (v := 10) rfl ?_
      refine x_aload_n hP dX12_street_54 rfl ?_
      refine x_getI hP fX12_251 lay67 dX12_street_55 ?_
      refine x_imul hP dX12_street_58 ?_
      refine x_iload_n hP dX12_street_59 rfl ?_
      refine x_iadd hP dX12_street_60 ?_
      obtain ⟨v7, hiv7, hv7, hf⟩ := b_ag hf
      refine y_ald hP lay79 hiv7 hv7 dX12_street_61 ?_
      cases hf
      exact x_iret hP rfl dX12_street_62
    replace hf := p_f c6 hf
    by_cases c8 : x2 = 1
    · refine x_tswE hP dX12_street_15 c8 (by decide) (by decide) (off := 48) rfl (tgt := 63) (by decide) ?_
      replace hf := p_t c8 hf
      refine x_aload_n hP dX12_street_63 rfl ?_
      refine x_getA hP fX12_55 lay67 (r := 80) rfl dX12_street_64 ?_
      refine x_bipush hP dX12_street_67 (v := 10) rfl ?_
      refine x_aload_n hP dX12_street_69 rfl ?_
      refine x_getI hP fX12_251 lay67 dX12_street_70 ?_
      refine x_imul hP dX12_street_73 ?_
      refine x_iload_n hP dX12_street_74 rfl ?_
      refine x_iadd hP dX12_street_75 ?_
      obtain ⟨v9, hiv9, hv9, hf⟩ := b_ag hf
      refine y_ald hP lay80 hiv9 hv9 dX12_street_76 ?_
      cases hf
      exact x_iret hP rfl dX12_street_77
    replace hf := p_f c8 hf
    by_cases c10 : x2 = 2
    · refine x_tswE hP dX12_street_15 c10 (by decide) (by decide) (off := 63) rfl (tgt := 78) (by decide) ?_
      replace hf := p_t c10 hf
      refine x_aload_n hP dX12_street_78 rfl ?_
      refine x_getA hP fX12_58 lay67 (r := 81) rfl dX12_street_79 ?_
      refine x_bipush hP dX12_street_82 (v := 10) rfl ?_
      refine x_aload_n hP dX12_street_84 rfl ?_
      refine x_getI hP fX12_251 lay67 dX12_street_85 ?_
      refine x_imul hP dX12_street_88 ?_
      refine x_iload_n hP dX12_street_89 rfl ?_
      refine x_iadd hP dX12_street_90 ?_
      obtain ⟨v11, hiv11, hv11, hf⟩ := b_ag hf
      refine y_ald hP lay81 hiv11 hv11 dX12_street_91 ?_
      cases hf
      exact x_iret hP rfl dX12_street_92
    replace hf := p_f c10 hf
    by_cases c12 : x2 = 3
    · refine x_tswE hP dX12_street_15 c12 (by decide) (by decide) (off := 78) rfl (tgt := 93) (by decide) ?_
      replace hf := p_t c12 hf
      refine x_aload_n hP dX12_street_93 rfl ?_
      refine x_iload_n hP dX12_street_94 rfl ?_
      obtain ⟨v14, hc13, hf⟩ := b_bd hf
      refine y_cvi hP oX12_needsOf lX12_408 [.int x1] [] rfl rfl rfl lay67 dX12_street_95 (t_X12_needsOf (d := d - 1) (by omega) hc13) (by omega) ?_
      refine x_if_ne hP dX12_street_98 (tgt := 105) (by decide) (fun c15 => ?_) (fun c15 => ?_)
      · replace hf := p_f c15 hf
        refine x_iconst hP dX12_street_105 (v := 0) rfl ?_
        cases hf
        exact x_iret hP rfl dX12_street_106
      · replace hf := p_t c15 hf
        refine x_iconst hP dX12_street_101 (v := 1) rfl ?_
        refine x_goto hP dX12_street_102 (tgt := 106) (by decide) ?_
        cases hf
        exact x_iret hP rfl dX12_street_106
    replace hf := p_f c12 hf
    by_cases c16 : x2 = 4
    · refine x_tswE hP dX12_street_15 c16 (by decide) (by decide) (off := 92) rfl (tgt := 107) (by decide) ?_
      replace hf := p_t c16 hf
      refine x_aload_n hP dX12_street_107 rfl ?_
      refine x_iload_n hP dX12_street_108 rfl ?_
      obtain ⟨v18, hc17, hf⟩ := b_bd hf
      refine y_cvi hP oX12_needsOf lX12_408 [.int x1] [] rfl rfl rfl lay67 dX12_street_109 (t_X12_needsOf (d := d - 1) (by omega) hc17) (by omega) ?_
      cases hf
      exact x_iret hP rfl dX12_street_112
    replace hf := p_f c16 hf
    refine x_tswD hP dX12_street_15 [0, 1, 2, 3, 4] (And.intro (neI c6) (And.intro (neI c8) (And.intro (neI c10) (And.intro (neI c12) (And.intro (neI c16) trivial))))) (by decide) (by decide) (tgt := 113) (by decide) ?_
    refine x_iconst hP dX12_street_113 (v := (-1)) rfl ?_
    cases hf
    exact x_iret hP rfl dX12_street_114
  · replace hf := p_t c3 hf
    refine x_iconst hP dX12_street_8 (v := (-1)) rfl ?_
    cases hf
    exact x_iret hP rfl dX12_street_9
def f_X12_young (x1 : Int32) (x2 : Int32) (M : Mem) : Option (Int32 × Mem) :=
  (f_X12_isYoung x1 M).bind fun v2 =>
  if v2 = 0 then
    some ((-1 : Int32), M)
  else
    (f_X12_copies M).bind fun M5 =>
    if x2 = 0 then
      (ag M5 83 12 (((6 : Int32) * (M5.1 67 18)) + x1)).bind fun v7 =>
      some (v7, M5)
    else
    if x2 = 1 then
      (ag M5 84 12 (((6 : Int32) * (M5.1 67 18)) + x1)).bind fun v9 =>
      some (v9, M5)
    else
    if x2 = 2 then
      (ag M5 104 48 x1).bind fun v11 =>
      some (v11, M5)
    else
    if x2 = 3 then
      (ag M5 104 48 ((6 : Int32) + x1)).bind fun v13 =>
      some (v13, M5)
    else
    if x2 = 4 then
      (ag M5 104 48 ((12 : Int32) + x1)).bind fun v15 =>
      some (v15, M5)
    else
    if x2 = 5 then
      (ag M5 104 48 ((18 : Int32) + x1)).bind fun v17 =>
      some (v17, M5)
    else
    if x2 = 6 then
      (ag M5 104 48 (47 : Int32)).bind fun v19 =>
      (ag M5 104 48 ((24 : Int32) + x1)).bind fun v20 =>
      some (v19 - v20, M5)
    else
    if x2 = 7 then
      (ag M5 104 48 ((30 : Int32) + x1)).bind fun v22 =>
      some (v22, M5)
    else
    if x2 = 8 then
      (ag M5 104 48 ((12 : Int32) + x1)).bind fun v24 =>
      if v24 = (1 : Int32) then
        some ((0 : Int32), M5)
      else
        (f_X12_coolsOf x1 M5).bind fun t27 =>
        some (t27.1, t27.2)
    else
    if x2 = 9 then
      (f_X12_doesLeave x1 M5).bind fun t30 =>
      if t30.1 = 0 then
        some ((0 : Int32), t30.2)
      else
        some ((1 : Int32), t30.2)
    else
    some ((-1 : Int32), M5)
set_option maxHeartbeats 1000000 in
set_option maxRecDepth 20000 in
theorem t_X12_young {g : GG} {d : Nat} (hd : 4 ≤ d) {x1 : Int32} {x2 : Int32} {M : Mem} {r : Int32} {M' : Mem} (hf : f_X12_young x1 x2 M = some (r, M')) : ExM g d iX12_young [.ref 67, .int x1, .int x2] LAY M (some (.int r), LAY, M') := by
  have hd1 : 1 ≤ d := by omega
  refine ExM.main pnX12 rfl (ls := [some (.ref 67), some (.int x1), some (.int x2)]) rfl ?_
  intro P hP
  rw [f_X12_young] at hf
  refine x_aload_n hP dX12_young_0 rfl ?_
  refine x_iload_n hP dX12_young_1 rfl ?_
  obtain ⟨v2, hc1, hf⟩ := b_bd hf
  refine y_cvi hP oX12_isYoung lX12_338 [.int x1] [] rfl rfl rfl lay67 dX12_young_2 (t_X12_isYoung (d := d - 1) (by omega) hc1) (by omega) ?_
  refine x_if_ne hP dX12_young_5 (tgt := 10) (by decide) (fun c3 => ?_) (fun c3 => ?_)
  · replace hf := p_f c3 hf
    refine x_aload_n hP dX12_young_10 rfl ?_
    obtain ⟨M5, hc4, hf⟩ := b_bd hf
    refine y_cvv hP oX12_copies lX12_347 [] [] rfl rfl rfl lay67 dX12_young_11 (t_X12_copies (d := d - 1) (by omega) hc4) (by omega) ?_
    refine x_iload_n hP dX12_young_14 rfl ?_
    by_cases c6 : x2 = 0
    · refine x_tswE hP dX12_young_15 c6 (by decide) (by decide) (off := 53) rfl (tgt := 68) (by decide) ?_
      replace hf := p_t c6 hf
      refine x_aload_n hP dX12_young_68 rfl ?_
      refine x_getA hP fX12_64 lay67 (r := 83) rfl dX12_young_69 ?_
      refine x_bipush hP dX12_young_72 (v := 6) rfl ?_
      refine x_aload_n hP dX12_young_74 rfl ?_
      refine x_getI hP fX12_251 lay67 dX12_young_75 ?_
      refine x_imul hP dX12_young_78 ?_
      refine x_iload_n hP dX12_young_79 rfl ?_
      refine x_iadd hP dX12_young_80 ?_
      obtain ⟨v7, hiv7, hv7, hf⟩ := b_ag hf
      refine y_ald hP lay83 hiv7 hv7 dX12_young_81 ?_
      cases hf
      exact x_iret hP rfl dX12_young_82
    replace hf := p_f c6 hf
    by_cases c8 : x2 = 1
    · refine x_tswE hP dX12_young_15 c8 (by decide) (by decide) (off := 68) rfl (tgt := 83) (by decide) ?_
      replace hf := p_t c8 hf
      refine x_aload_n hP dX12_young_83 rfl ?_
      refine x_getA hP fX12_67 lay67 (r := 84) rfl dX12_young_84 ?_
      refine x_bipush hP dX12_young_87 (v := 6) rfl ?_
      refine x_aload_n hP dX12_young_89 rfl ?_
      refine x_getI hP fX12_251 lay67 dX12_young_90 ?_
      refine x_imul hP dX12_young_93 ?_
      refine x_iload_n hP dX12_young_94 rfl ?_
      refine x_iadd hP dX12_young_95 ?_
      obtain ⟨v9, hiv9, hv9, hf⟩ := b_ag hf
      refine y_ald hP lay84 hiv9 hv9 dX12_young_96 ?_
      cases hf
      exact x_iret hP rfl dX12_young_97
    replace hf := p_f c8 hf
    by_cases c10 : x2 = 2
    · refine x_tswE hP dX12_young_15 c10 (by decide) (by decide) (off := 83) rfl (tgt := 98) (by decide) ?_
      replace hf := p_t c10 hf
      refine x_aload_n hP dX12_young_98 rfl ?_
      refine x_getA hP fX12_128 lay67 (r := 104) rfl dX12_young_99 ?_
      refine x_iload_n hP dX12_young_102 rfl ?_
      obtain ⟨v11, hiv11, hv11, hf⟩ := b_ag hf
      refine y_ald hP lay104 hiv11 hv11 dX12_young_103 ?_
      cases hf
      exact x_iret hP rfl dX12_young_104
    replace hf := p_f c10 hf
    by_cases c12 : x2 = 3
    · refine x_tswE hP dX12_young_15 c12 (by decide) (by decide) (off := 90) rfl (tgt := 105) (by decide) ?_
      replace hf := p_t c12 hf
      refine x_aload_n hP dX12_young_105 rfl ?_
      refine x_getA hP fX12_128 lay67 (r := 104) rfl dX12_young_106 ?_
      refine x_bipush hP dX12_young_109 (v := 6) rfl ?_
      refine x_iload_n hP dX12_young_111 rfl ?_
      refine x_iadd hP dX12_young_112 ?_
      obtain ⟨v13, hiv13, hv13, hf⟩ := b_ag hf
      refine y_ald hP lay104 hiv13 hv13 dX12_young_113 ?_
      cases hf
      exact x_iret hP rfl dX12_young_114
    replace hf := p_f c12 hf
    by_cases c14 : x2 = 4
    · refine x_tswE hP dX12_young_15 c14 (by decide) (by decide) (off := 100) rfl (tgt := 115) (by decide) ?_
      replace hf := p_t c14 hf
      refine x_aload_n hP dX12_young_115 rfl ?_
      refine x_getA hP fX12_128 lay67 (r := 104) rfl dX12_young_116 ?_
      refine x_bipush hP dX12_young_119 (v := 12) rfl ?_
      refine x_iload_n hP dX12_young_121 rfl ?_
      refine x_iadd hP dX12_young_122 ?_
      obtain ⟨v15, hiv15, hv15, hf⟩ := b_ag hf
      refine y_ald hP lay104 hiv15 hv15 dX12_young_123 ?_
      cases hf
      exact x_iret hP rfl dX12_young_124
    replace hf := p_f c14 hf
    by_cases c16 : x2 = 5
    · refine x_tswE hP dX12_young_15 c16 (by decide) (by decide) (off := 110) rfl (tgt := 125) (by decide) ?_
      replace hf := p_t c16 hf
      refine x_aload_n hP dX12_young_125 rfl ?_
      refine x_getA hP fX12_128 lay67 (r := 104) rfl dX12_young_126 ?_
      refine x_bipush hP dX12_young_129 (v := 18) rfl ?_
      refine x_iload_n hP dX12_young_131 rfl ?_
      refine x_iadd hP dX12_young_132 ?_
      obtain ⟨v17, hiv17, hv17, hf⟩ := b_ag hf
      refine y_ald hP lay104 hiv17 hv17 dX12_young_133 ?_
      cases hf
      exact x_iret hP rfl dX12_young_134
    replace hf := p_f c16 hf
    by_cases c18 : x2 = 6
    · refine x_tswE hP dX12_young_15 c18 (by decide) (by decide) (off := 120) rfl (tgt := 135) (by decide) ?_
      replace hf := p_t c18 hf
      refine x_aload_n hP dX12_young_135 rfl ?_
      refine x_getA hP fX12_128 lay67 (r := 104) rfl dX12_young_136 ?_
      refine x_bipush hP dX12_young_139 (v := 47) rfl ?_
      obtain ⟨v19, hiv19, hv19, hf⟩ := b_ag hf
      refine y_ald hP lay104 hiv19 hv19 dX12_young_141 ?_
      refine x_aload_n hP dX12_young_142 rfl ?_
      refine x_getA hP fX12_128 lay67 (r := 104) rfl dX12_young_143 ?_
      refine x_bipush hP dX12_young_146 (v := 24) rfl ?_
      refine x_iload_n hP dX12_young_148 rfl ?_
      refine x_iadd hP dX12_young_149 ?_
      obtain ⟨v20, hiv20, hv20, hf⟩ := b_ag hf
      refine y_ald hP lay104 hiv20 hv20 dX12_young_150 ?_
      refine x_isub hP dX12_young_151 ?_
      cases hf
      exact x_iret hP rfl dX12_young_152
    replace hf := p_f c18 hf
    by_cases c21 : x2 = 7
    · refine x_tswE hP dX12_young_15 c21 (by decide) (by decide) (off := 138) rfl (tgt := 153) (by decide) ?_
      replace hf := p_t c21 hf
      refine x_aload_n hP dX12_young_153 rfl ?_
      refine x_getA hP fX12_128 lay67 (r := 104) rfl dX12_young_154 ?_
      refine x_bipush hP dX12_young_157 (v := 30) rfl ?_
      refine x_iload_n hP dX12_young_159 rfl ?_
      refine x_iadd hP dX12_young_160 ?_
      obtain ⟨v22, hiv22, hv22, hf⟩ := b_ag hf
      refine y_ald hP lay104 hiv22 hv22 dX12_young_161 ?_
      cases hf
      exact x_iret hP rfl dX12_young_162
    replace hf := p_f c21 hf
    by_cases c23 : x2 = 8
    · refine x_tswE hP dX12_young_15 c23 (by decide) (by decide) (off := 148) rfl (tgt := 163) (by decide) ?_
      replace hf := p_t c23 hf
      refine x_aload_n hP dX12_young_163 rfl ?_
      refine x_getA hP fX12_128 lay67 (r := 104) rfl dX12_young_164 ?_
      refine x_bipush hP dX12_young_167 (v := 12) rfl ?_
      refine x_iload_n hP dX12_young_169 rfl ?_
      refine x_iadd hP dX12_young_170 ?_
      obtain ⟨v24, hiv24, hv24, hf⟩ := b_ag hf
      refine y_ald hP lay104 hiv24 hv24 dX12_young_171 ?_
      refine x_iconst hP dX12_young_172 (v := 1) rfl ?_
      refine x_icmp_ne hP dX12_young_173 (tgt := 180) (by decide) (fun c25 => ?_) (fun c25 => ?_)
      · replace hf := p_f c25 hf
        refine x_aload_n hP dX12_young_180 rfl ?_
        refine x_iload_n hP dX12_young_181 rfl ?_
        obtain ⟨t27, hc26, hf⟩ := b_bd hf
        refine y_cvi hP oX12_coolsOf lX12_376 [.int x1] [] rfl rfl rfl lay67 dX12_young_182 (t_X12_coolsOf (d := d - 1) (by omega) hc26) (by omega) ?_
        cases hf
        exact x_iret hP rfl dX12_young_185
      · replace hf := p_t c25 hf
        refine x_iconst hP dX12_young_176 (v := 0) rfl ?_
        refine x_goto hP dX12_young_177 (tgt := 185) (by decide) ?_
        cases hf
        exact x_iret hP rfl dX12_young_185
    replace hf := p_f c23 hf
    by_cases c28 : x2 = 9
    · refine x_tswE hP dX12_young_15 c28 (by decide) (by decide) (off := 171) rfl (tgt := 186) (by decide) ?_
      replace hf := p_t c28 hf
      refine x_aload_n hP dX12_young_186 rfl ?_
      refine x_iload_n hP dX12_young_187 rfl ?_
      obtain ⟨t30, hc29, hf⟩ := b_bd hf
      refine y_cvi hP oX12_doesLeave lX12_379 [.int x1] [] rfl rfl rfl lay67 dX12_young_188 (t_X12_doesLeave (d := d - 1) (by omega) hc29) (by omega) ?_
      refine x_if_eq hP dX12_young_191 (tgt := 198) (by decide) (fun c31 => ?_) (fun c31 => ?_)
      · replace hf := p_t c31 hf
        refine x_iconst hP dX12_young_198 (v := 0) rfl ?_
        cases hf
        exact x_iret hP rfl dX12_young_199
      · replace hf := p_f c31 hf
        refine x_iconst hP dX12_young_194 (v := 1) rfl ?_
        refine x_goto hP dX12_young_195 (tgt := 199) (by decide) ?_
        cases hf
        exact x_iret hP rfl dX12_young_199
    replace hf := p_f c28 hf
    refine x_tswD hP dX12_young_15 [0, 1, 2, 3, 4, 5, 6, 7, 8, 9] (And.intro (neI c6) (And.intro (neI c8) (And.intro (neI c10) (And.intro (neI c12) (And.intro (neI c14) (And.intro (neI c16) (And.intro (neI c18) (And.intro (neI c21) (And.intro (neI c23) (And.intro (neI c28) trivial)))))))))) (by decide) (by decide) (tgt := 200) (by decide) ?_
    refine x_iconst hP dX12_young_200 (v := (-1)) rfl ?_
    cases hf
    exact x_iret hP rfl dX12_young_201
  · replace hf := p_t c3 hf
    refine x_iconst hP dX12_young_8 (v := (-1)) rfl ?_
    cases hf
    exact x_iret hP rfl dX12_young_9
def f_X12_word_ (x1 : Int32) (x2 : Int32) (M : Mem) : Option (Int32) :=
  (f_X12_isWord x1 M).bind fun v2 =>
  if v2 = 0 then
    some (-1 : Int32)
  else
    (f_X12_in x2 (0 : Int32) (1 : Int32)).bind fun v5 =>
    if v5 = 0 then
      some (-1 : Int32)
    else
      (ag M 103 48 (((36 : Int32) + ((5 : Int32) * x2)) + x1)).bind fun v7 =>
      some v7
set_option maxHeartbeats 1000000 in
set_option maxRecDepth 20000 in
theorem t_X12_word_ {g : GG} {d : Nat} (hd : 3 ≤ d) {x1 : Int32} {x2 : Int32} {M : Mem} {r : Int32} (hf : f_X12_word_ x1 x2 M = some r) : ExM g d iX12_word_ [.ref 67, .int x1, .int x2] LAY M (some (.int r), LAY, M) := by
  have hd1 : 1 ≤ d := by omega
  refine ExM.main pnX12 rfl (ls := [some (.ref 67), some (.int x1), some (.int x2)]) rfl ?_
  intro P hP
  rw [f_X12_word_] at hf
  refine x_aload_n hP dX12_word__0 rfl ?_
  refine x_iload_n hP dX12_word__1 rfl ?_
  obtain ⟨v2, hc1, hf⟩ := b_bd hf
  refine y_cvi hP oX12_isWord lX12_411 [.int x1] [] rfl rfl rfl lay67 dX12_word__2 (t_X12_isWord (d := d - 1) (by omega) hc1) (by omega) ?_
  refine x_if_eq hP dX12_word__5 (tgt := 17) (by decide) (fun c3 => ?_) (fun c3 => ?_)
  · replace hf := p_t c3 hf
    refine x_iconst hP dX12_word__17 (v := (-1)) rfl ?_
    cases hf
    exact x_iret hP rfl dX12_word__18
  · replace hf := p_f c3 hf
    refine x_iload_n hP dX12_word__8 rfl ?_
    refine x_iconst hP dX12_word__9 (v := 0) rfl ?_
    refine x_iconst hP dX12_word__10 (v := 1) rfl ?_
    obtain ⟨v5, hc4, hf⟩ := b_bd hf
    refine y_csi hP oX12_in lX12_334 [.int x2, .int (0 : Int32), .int (1 : Int32)] [] rfl rfl rfl dX12_word__11 (t_X12_in (d := d - 1) (by omega) hc4) (by omega) ?_
    refine x_if_ne hP dX12_word__14 (tgt := 19) (by decide) (fun c6 => ?_) (fun c6 => ?_)
    · replace hf := p_f c6 hf
      refine x_aload_n hP dX12_word__19 rfl ?_
      refine x_getA hP fX12_125 lay67 (r := 103) rfl dX12_word__20 ?_
      refine x_bipush hP dX12_word__23 (v := 36) rfl ?_
      refine x_iconst hP dX12_word__25 (v := 5) rfl ?_
      refine x_iload_n hP dX12_word__26 rfl ?_
      refine x_imul hP dX12_word__27 ?_
      refine x_iadd hP dX12_word__28 ?_
      refine x_iload_n hP dX12_word__29 rfl ?_
      refine x_iadd hP dX12_word__30 ?_
      obtain ⟨v7, hiv7, hv7, hf⟩ := b_ag hf
      refine y_ald hP lay103 hiv7 hv7 dX12_word__31 ?_
      cases hf
      exact x_iret hP rfl dX12_word__32
    · replace hf := p_t c6 hf
      refine x_iconst hP dX12_word__17 (v := (-1)) rfl ?_
      cases hf
      exact x_iret hP rfl dX12_word__18
def f_X12_tells (x1 : Int32) (x2 : Int32) (x3 : Int32) (M : Mem) : Option (Int32 × Mem) :=
  (f_X12_isYoung x1 M).bind fun v2 =>
  if v2 = 0 then
    some ((-1 : Int32), M)
  else
    (f_X12_isWord x2 M).bind fun v5 =>
    if v5 = 0 then
      some ((-1 : Int32), M)
    else
      (f_X12_in x3 (0 : Int32) (1 : Int32)).bind fun v8 =>
      if v8 = 0 then
        some ((-1 : Int32), M)
      else
        (f_X12_copies M).bind fun M11 =>
        if x3 = 0 then
          (f_X12_glowsOf x1 x2 M11).bind fun t14 =>
          some (t14.1, t14.2)
        else
          (f_X12_wearsOf x1 x2 M11).bind fun t16 =>
          some (t16.1, t16.2)
set_option maxHeartbeats 1000000 in
set_option maxRecDepth 20000 in
theorem t_X12_tells {g : GG} {d : Nat} (hd : 4 ≤ d) {x1 : Int32} {x2 : Int32} {x3 : Int32} {M : Mem} {r : Int32} {M' : Mem} (hf : f_X12_tells x1 x2 x3 M = some (r, M')) : ExM g d iX12_tells [.ref 67, .int x1, .int x2, .int x3] LAY M (some (.int r), LAY, M') := by
  have hd1 : 1 ≤ d := by omega
  refine ExM.main pnX12 rfl (ls := [some (.ref 67), some (.int x1), some (.int x2), some (.int x3)]) rfl ?_
  intro P hP
  rw [f_X12_tells] at hf
  refine x_aload_n hP dX12_tells_0 rfl ?_
  refine x_iload_n hP dX12_tells_1 rfl ?_
  obtain ⟨v2, hc1, hf⟩ := b_bd hf
  refine y_cvi hP oX12_isYoung lX12_338 [.int x1] [] rfl rfl rfl lay67 dX12_tells_2 (t_X12_isYoung (d := d - 1) (by omega) hc1) (by omega) ?_
  refine x_if_eq hP dX12_tells_5 (tgt := 25) (by decide) (fun c3 => ?_) (fun c3 => ?_)
  · replace hf := p_t c3 hf
    refine x_iconst hP dX12_tells_25 (v := (-1)) rfl ?_
    cases hf
    exact x_iret hP rfl dX12_tells_26
  · replace hf := p_f c3 hf
    refine x_aload_n hP dX12_tells_8 rfl ?_
    refine x_iload_n hP dX12_tells_9 rfl ?_
    obtain ⟨v5, hc4, hf⟩ := b_bd hf
    refine y_cvi hP oX12_isWord lX12_411 [.int x2] [] rfl rfl rfl lay67 dX12_tells_10 (t_X12_isWord (d := d - 1) (by omega) hc4) (by omega) ?_
    refine x_if_eq hP dX12_tells_13 (tgt := 25) (by decide) (fun c6 => ?_) (fun c6 => ?_)
    · replace hf := p_t c6 hf
      refine x_iconst hP dX12_tells_25 (v := (-1)) rfl ?_
      cases hf
      exact x_iret hP rfl dX12_tells_26
    · replace hf := p_f c6 hf
      refine x_iload_n hP dX12_tells_16 rfl ?_
      refine x_iconst hP dX12_tells_17 (v := 0) rfl ?_
      refine x_iconst hP dX12_tells_18 (v := 1) rfl ?_
      obtain ⟨v8, hc7, hf⟩ := b_bd hf
      refine y_csi hP oX12_in lX12_334 [.int x3, .int (0 : Int32), .int (1 : Int32)] [] rfl rfl rfl dX12_tells_19 (t_X12_in (d := d - 1) (by omega) hc7) (by omega) ?_
      refine x_if_ne hP dX12_tells_22 (tgt := 27) (by decide) (fun c9 => ?_) (fun c9 => ?_)
      · replace hf := p_f c9 hf
        refine x_aload_n hP dX12_tells_27 rfl ?_
        obtain ⟨M11, hc10, hf⟩ := b_bd hf
        refine y_cvv hP oX12_copies lX12_347 [] [] rfl rfl rfl lay67 dX12_tells_28 (t_X12_copies (d := d - 1) (by omega) hc10) (by omega) ?_
        refine x_iload_n hP dX12_tells_31 rfl ?_
        refine x_if_ne hP dX12_tells_32 (tgt := 44) (by decide) (fun c12 => ?_) (fun c12 => ?_)
        · replace hf := p_f c12 hf
          refine x_aload_n hP dX12_tells_44 rfl ?_
          refine x_iload_n hP dX12_tells_45 rfl ?_
          refine x_iload_n hP dX12_tells_46 rfl ?_
          obtain ⟨t16, hc15, hf⟩ := b_bd hf
          refine y_cvi hP oX12_wearsOf lX12_373 [.int x1, .int x2] [] rfl rfl rfl lay67 dX12_tells_47 (t_X12_wearsOf (d := d - 1) (by omega) hc15) (by omega) ?_
          cases hf
          exact x_iret hP rfl dX12_tells_50
        · replace hf := p_t c12 hf
          refine x_aload_n hP dX12_tells_35 rfl ?_
          refine x_iload_n hP dX12_tells_36 rfl ?_
          refine x_iload_n hP dX12_tells_37 rfl ?_
          obtain ⟨t14, hc13, hf⟩ := b_bd hf
          refine y_cvi hP oX12_glowsOf lX12_370 [.int x1, .int x2] [] rfl rfl rfl lay67 dX12_tells_38 (t_X12_glowsOf (d := d - 1) (by omega) hc13) (by omega) ?_
          refine x_goto hP dX12_tells_41 (tgt := 50) (by decide) ?_
          cases hf
          exact x_iret hP rfl dX12_tells_50
      · replace hf := p_t c9 hf
        refine x_iconst hP dX12_tells_25 (v := (-1)) rfl ?_
        cases hf
        exact x_iret hP rfl dX12_tells_26
def f_X12_records_L11 : Nat → Int32 → Mem → Option (Mem)
  | 0, _, _ => none
  | fu + 1, l1, M =>
    if (1872 : Int32) ≤ l1 then
      some M
    else
      (ag M 108 1920 (l1 + (48 : Int32))).bind fun v4 =>
      (pg M 108 1920 l1 v4).bind fun M5 =>
      lt (l1 + 1 : Int32) fun v6 =>
      f_X12_records_L11 fu v6 M5
def f_X12_records_L51 : Nat → Int32 → Mem → Option (Mem)
  | 0, _, _ => none
  | fu + 1, l1, M =>
    if (48 : Int32) ≤ l1 then
      some M
    else
      (ag M 103 48 l1).bind fun v11 =>
      (pg M 108 1920 (((48 : Int32) * (M.1 67 60)) + l1) v11).bind fun M12 =>
      lt (l1 + 1 : Int32) fun v13 =>
      f_X12_records_L51 fu v13 M12
def f_X12_records (M : Mem) : Option (Mem) :=
  (
    if M.1 67 60 = (40 : Int32) then
      (f_X12_records_L11 FU (0 : Int32) M).bind fun t7 =>
      lt (sI t7 67 60 ((t7.1 67 60) - (1 : Int32))) fun M9 =>
      some M9
    else
      some M
  ).bind fun t1 =>
  (f_X12_records_L51 FU (0 : Int32) t1).bind fun t14 =>
  lt (sI t14 67 60 ((t14.1 67 60) + (1 : Int32))) fun M16 =>
  (f_X12_keepsRow M16).bind fun M18 =>
  some M18
set_option maxHeartbeats 1000000 in
set_option maxRecDepth 20000 in
theorem t_X12_records_L11 {g : GG} {d : Nat} {P : PT} {res : Option RS} (hd : 2 ≤ d)  (hP : IsM g iX12_records d res P) : ∀ (fu : Nat) (l1 : Int32) (M : Mem) (t : Mem), f_X12_records_L11 fu l1 M = some t → P 39 [some (.ref 67), none] [] LAY t → P 11 [some (.ref 67), some (.int l1)] [] LAY M := by
  have hd1 : 1 ≤ d := by omega
  intro fu
  induction fu with
  | zero => intro l1 M t hf; simp [f_X12_records_L11] at hf
  | succ fu ih =>
    intro l1 M t hf hx
    rw [f_X12_records_L11] at hf
    refine x_iload_n hP dX12_records_11 rfl ?_
    refine x_sipush hP dX12_records_12 (v := 1872) rfl ?_
    refine x_icmp_ge hP dX12_records_15 (tgt := 39) (by decide) (fun c3 => ?_) (fun c3 => ?_)
    · replace hf := p_t c3 hf
      refine x_drop hP [some (.ref 67), none] (And.intro rfl trivial) ?_
      cases hf
      exact hx
    · replace hf := p_f c3 hf
      refine x_aload_n hP dX12_records_18 rfl ?_
      refine x_getA hP fX12_140 lay67 (r := 108) rfl dX12_records_19 ?_
      refine x_iload_n hP dX12_records_22 rfl ?_
      refine x_aload_n hP dX12_records_23 rfl ?_
      refine x_getA hP fX12_140 lay67 (r := 108) rfl dX12_records_24 ?_
      refine x_iload_n hP dX12_records_27 rfl ?_
      refine x_bipush hP dX12_records_28 (v := 48) rfl ?_
      refine x_iadd hP dX12_records_30 ?_
      obtain ⟨v4, hiv4, hv4, hf⟩ := b_ag hf
      refine y_ald hP lay108 hiv4 hv4 dX12_records_31 ?_
      obtain ⟨M5, hiM5, hM5, hf⟩ := b_pg hf
      refine y_ast hP lay108 hiM5 hM5 dX12_records_32 ?_
      obtain ⟨v6, hv6, hf⟩ := b_lt hf
      refine x_iinc hP (v := v6) (ls2 := [some (.ref 67), some (.int v6)]) dX12_records_33 rfl (by rw [hv6]; rfl) rfl rfl ?_
      refine x_goto hP dX12_records_36 (tgt := 11) (by decide) ?_
      refine x_drop hP [some (.ref 67), some (.int v6)] (And.intro rfl (And.intro rfl trivial)) ?_
      exact ih _ _ _ hf hx
set_option maxHeartbeats 1000000 in
set_option maxRecDepth 20000 in
theorem t_X12_records_L51 {g : GG} {d : Nat} {P : PT} {res : Option RS} (hd : 2 ≤ d)  (hP : IsM g iX12_records d res P) : ∀ (fu : Nat) (l1 : Int32) (M : Mem) (t : Mem), f_X12_records_L51 fu l1 M = some t → P 83 [some (.ref 67), none] [] LAY t → P 51 [some (.ref 67), some (.int l1)] [] LAY M := by
  have hd1 : 1 ≤ d := by omega
  intro fu
  induction fu with
  | zero => intro l1 M t hf; simp [f_X12_records_L51] at hf
  | succ fu ih =>
    intro l1 M t hf hx
    rw [f_X12_records_L51] at hf
    refine x_iload_n hP dX12_records_51 rfl ?_
    refine x_bipush hP dX12_records_52 (v := 48) rfl ?_
    refine x_icmp_ge hP dX12_records_54 (tgt := 83) (by decide) (fun c10 => ?_) (fun c10 => ?_)
    · replace hf := p_t c10 hf
      refine x_drop hP [some (.ref 67), none] (And.intro rfl trivial) ?_
      cases hf
      exact hx
    · replace hf := p_f c10 hf
      refine x_aload_n hP dX12_records_57 rfl ?_
      refine x_getA hP fX12_140 lay67 (r := 108) rfl dX12_records_58 ?_
      refine x_bipush hP dX12_records_61 (v := 48) rfl ?_
      refine x_aload_n hP dX12_records_63 rfl ?_
      refine x_getI hP fX12_269 lay67 dX12_records_64 ?_
      refine x_imul hP dX12_records_67 ?_
      refine x_iload_n hP dX12_records_68 rfl ?_
      refine x_iadd hP dX12_records_69 ?_
      refine x_aload_n hP dX12_records_70 rfl ?_
      refine x_getA hP fX12_125 lay67 (r := 103) rfl dX12_records_71 ?_
      refine x_iload_n hP dX12_records_74 rfl ?_
      obtain ⟨v11, hiv11, hv11, hf⟩ := b_ag hf
      refine y_ald hP lay103 hiv11 hv11 dX12_records_75 ?_
      obtain ⟨M12, hiM12, hM12, hf⟩ := b_pg hf
      refine y_ast hP lay108 hiM12 hM12 dX12_records_76 ?_
      obtain ⟨v13, hv13, hf⟩ := b_lt hf
      refine x_iinc hP (v := v13) (ls2 := [some (.ref 67), some (.int v13)]) dX12_records_77 rfl (by rw [hv13]; rfl) rfl rfl ?_
      refine x_goto hP dX12_records_80 (tgt := 51) (by decide) ?_
      refine x_drop hP [some (.ref 67), some (.int v13)] (And.intro rfl (And.intro rfl trivial)) ?_
      exact ih _ _ _ hf hx
set_option maxHeartbeats 1000000 in
set_option maxRecDepth 20000 in
theorem t_X12_records {g : GG} {d : Nat} (hd : 2 ≤ d) {M : Mem} {M' : Mem} (hf : f_X12_records M = some M') : ExM g d iX12_records [.ref 67] LAY M (none, LAY, M') := by
  have hd1 : 1 ≤ d := by omega
  refine ExM.main pnX12 rfl (ls := [some (.ref 67), none]) rfl ?_
  intro P hP
  rw [f_X12_records] at hf
  refine x_aload_n hP dX12_records_0 rfl ?_
  refine x_getI hP fX12_269 lay67 dX12_records_1 ?_
  refine x_bipush hP dX12_records_4 (v := 40) rfl ?_
  obtain ⟨t1, het1, hf⟩ := b_bd hf
  have hj1 : P 49 [some (.ref 67), none] [] LAY t1 := by
    refine x_iconst hP dX12_records_49 (v := 0) rfl ?_
    refine x_istore_n hP (ls2 := [some (.ref 67), some (.int (0 : Int32))]) dX12_records_50 rfl rfl rfl ?_
    refine x_drop hP [some (.ref 67), some (.int (0 : Int32))] (And.intro rfl (And.intro rfl trivial)) ?_
    obtain ⟨t14, hl15, hf⟩ := b_bd hf
    refine t_X12_records_L51 hd hP _ _ _ _ hl15 ?_
    refine x_aload_n hP dX12_records_83 rfl ?_
    refine x_dup hP dX12_records_84 rfl ?_
    refine x_getI hP fX12_269 lay67 dX12_records_85 ?_
    refine x_iconst hP dX12_records_88 (v := 1) rfl ?_
    refine x_iadd hP dX12_records_89 ?_
    obtain ⟨M16, hM16, hf⟩ := b_lt hf
    refine y_putI hP fX12_269 lay67 hM16 dX12_records_90 ?_
    refine x_aload_n hP dX12_records_93 rfl ?_
    obtain ⟨M18, hc17, hf⟩ := b_bd hf
    refine y_cvv hP oX12_keepsRow lX12_181 [] [] rfl rfl rfl lay67 dX12_records_94 (t_X12_keepsRow (d := d - 1) (by omega) hc17) (by omega) ?_
    cases hf
    exact x_vret hP rfl dX12_records_97
  clear hf
  have hf := het1
  clear het1
  refine x_icmp_ne hP dX12_records_6 (tgt := 49) (by decide) (fun c2 => ?_) (fun c2 => ?_)
  · replace hf := p_f c2 hf
    refine x_drop hP [some (.ref 67), none] (And.intro rfl trivial) ?_
    cases hf
    exact hj1
  · replace hf := p_t c2 hf
    refine x_iconst hP dX12_records_9 (v := 0) rfl ?_
    refine x_istore_n hP (ls2 := [some (.ref 67), some (.int (0 : Int32))]) dX12_records_10 rfl rfl rfl ?_
    refine x_drop hP [some (.ref 67), some (.int (0 : Int32))] (And.intro rfl (And.intro rfl trivial)) ?_
    obtain ⟨t7, hl8, hf⟩ := b_bd hf
    refine t_X12_records_L11 hd hP _ _ _ _ hl8 ?_
    refine x_aload_n hP dX12_records_39 rfl ?_
    refine x_dup hP dX12_records_40 rfl ?_
    refine x_getI hP fX12_269 lay67 dX12_records_41 ?_
    refine x_iconst hP dX12_records_44 (v := 1) rfl ?_
    refine x_isub hP dX12_records_45 ?_
    obtain ⟨M9, hM9, hf⟩ := b_lt hf
    refine y_putI hP fX12_269 lay67 hM9 dX12_records_46 ?_
    refine x_drop hP [some (.ref 67), none] (And.intro rfl trivial) ?_
    cases hf
    exact hj1
def f_X12_step (x1 : Int32) (M : Mem) : Option (Int32 × Mem) :=
  (f_X12_isStreet x1 M).bind fun v2 =>
  if v2 = 0 then
    some ((-1 : Int32), M)
  else
    (ag M 103 48 (46 : Int32)).bind fun v4 =>
    (f_X12_isEnd x1 v4 M).bind fun v6 =>
    if v6 = 0 then
      some ((-1 : Int32), M)
    else
      (f_X12_copies M).bind fun M9 =>
      (ag M9 104 48 (46 : Int32)).bind fun v10 =>
      (f_X12_otherEnd x1 v10 M9).bind fun v12 =>
      (pg M9 104 48 (46 : Int32) v12).bind fun M13 =>
      (f_X12_hourGoes M13).bind fun M15 =>
      (f_X12_records M15).bind fun M17 =>
      (ag M17 103 48 (46 : Int32)).bind fun v18 =>
      some (v18, M17)
set_option maxHeartbeats 1000000 in
set_option maxRecDepth 20000 in
theorem t_X12_step {g : GG} {d : Nat} (hd : 5 ≤ d) {x1 : Int32} {M : Mem} {r : Int32} {M' : Mem} (hf : f_X12_step x1 M = some (r, M')) : ExM g d iX12_step [.ref 67, .int x1] LAY M (some (.int r), LAY, M') := by
  have hd1 : 1 ≤ d := by omega
  refine ExM.main pnX12 rfl (ls := [some (.ref 67), some (.int x1)]) rfl ?_
  intro P hP
  rw [f_X12_step] at hf
  refine x_aload_n hP dX12_step_0 rfl ?_
  refine x_iload_n hP dX12_step_1 rfl ?_
  obtain ⟨v2, hc1, hf⟩ := b_bd hf
  refine y_cvi hP oX12_isStreet lX12_405 [.int x1] [] rfl rfl rfl lay67 dX12_step_2 (t_X12_isStreet (d := d - 1) (by omega) hc1) (by omega) ?_
  refine x_if_eq hP dX12_step_5 (tgt := 23) (by decide) (fun c3 => ?_) (fun c3 => ?_)
  · replace hf := p_t c3 hf
    refine x_iconst hP dX12_step_23 (v := (-1)) rfl ?_
    cases hf
    exact x_iret hP rfl dX12_step_24
  · replace hf := p_f c3 hf
    refine x_aload_n hP dX12_step_8 rfl ?_
    refine x_iload_n hP dX12_step_9 rfl ?_
    refine x_aload_n hP dX12_step_10 rfl ?_
    refine x_getA hP fX12_125 lay67 (r := 103) rfl dX12_step_11 ?_
    refine x_bipush hP dX12_step_14 (v := 46) rfl ?_
    obtain ⟨v4, hiv4, hv4, hf⟩ := b_ag hf
    refine y_ald hP lay103 hiv4 hv4 dX12_step_16 ?_
    obtain ⟨v6, hc5, hf⟩ := b_bd hf
    refine y_cvi hP oX12_isEnd lX12_401 [.int x1, .int v4] [] rfl rfl rfl lay67 dX12_step_17 (t_X12_isEnd (d := d - 1) (by omega) hc5) (by omega) ?_
    refine x_if_ne hP dX12_step_20 (tgt := 25) (by decide) (fun c7 => ?_) (fun c7 => ?_)
    · replace hf := p_f c7 hf
      refine x_aload_n hP dX12_step_25 rfl ?_
      obtain ⟨M9, hc8, hf⟩ := b_bd hf
      refine y_cvv hP oX12_copies lX12_347 [] [] rfl rfl rfl lay67 dX12_step_26 (t_X12_copies (d := d - 1) (by omega) hc8) (by omega) ?_
      refine x_aload_n hP dX12_step_29 rfl ?_
      refine x_getA hP fX12_128 lay67 (r := 104) rfl dX12_step_30 ?_
      refine x_bipush hP dX12_step_33 (v := 46) rfl ?_
      refine x_aload_n hP dX12_step_35 rfl ?_
      refine x_iload_n hP dX12_step_36 rfl ?_
      refine x_aload_n hP dX12_step_37 rfl ?_
      refine x_getA hP fX12_128 lay67 (r := 104) rfl dX12_step_38 ?_
      refine x_bipush hP dX12_step_41 (v := 46) rfl ?_
      obtain ⟨v10, hiv10, hv10, hf⟩ := b_ag hf
      refine y_ald hP lay104 hiv10 hv10 dX12_step_43 ?_
      obtain ⟨v12, hc11, hf⟩ := b_bd hf
      refine y_cvi hP oX12_otherEnd lX12_414 [.int x1, .int v10] [.int (46 : Int32), .ref 104] rfl rfl rfl lay67 dX12_step_44 (t_X12_otherEnd (d := d - 1) (by omega) hc11) (by omega) ?_
      obtain ⟨M13, hiM13, hM13, hf⟩ := b_pg hf
      refine y_ast hP lay104 hiM13 hM13 dX12_step_47 ?_
      refine x_aload_n hP dX12_step_48 rfl ?_
      obtain ⟨M15, hc14, hf⟩ := b_bd hf
      refine y_cvv hP oX12_hourGoes lX12_386 [] [] rfl rfl rfl lay67 dX12_step_49 (t_X12_hourGoes (d := d - 1) (by omega) hc14) (by omega) ?_
      refine x_aload_n hP dX12_step_52 rfl ?_
      obtain ⟨M17, hc16, hf⟩ := b_bd hf
      refine y_cvv hP oX12_records lX12_417 [] [] rfl rfl rfl lay67 dX12_step_53 (t_X12_records (d := d - 1) (by omega) hc16) (by omega) ?_
      refine x_aload_n hP dX12_step_56 rfl ?_
      refine x_getA hP fX12_125 lay67 (r := 103) rfl dX12_step_57 ?_
      refine x_bipush hP dX12_step_60 (v := 46) rfl ?_
      obtain ⟨v18, hiv18, hv18, hf⟩ := b_ag hf
      refine y_ald hP lay103 hiv18 hv18 dX12_step_62 ?_
      cases hf
      exact x_iret hP rfl dX12_step_63
    · replace hf := p_t c7 hf
      refine x_iconst hP dX12_step_23 (v := (-1)) rfl ?_
      cases hf
      exact x_iret hP rfl dX12_step_24
def f_X12_say (x1 : Int32) (x2 : Int32) (M : Mem) : Option (Int32 × Mem) :=
  (f_X12_isOut x1 M).bind fun v2 =>
  if v2 = 0 then
    some ((-1 : Int32), M)
  else
    (f_X12_isWord x2 M).bind fun v5 =>
    if v5 = 0 then
      some ((-1 : Int32), M)
    else
      (ag M 103 48 x1).bind fun v7 =>
      (ag M 103 48 (46 : Int32)).bind fun v8 =>
      if v7 = v8 then
        (f_X12_copies M).bind fun M11 =>
        (f_X12_says x1 x2 M11).bind fun M13 =>
        (f_X12_records M13).bind fun M15 =>
        (ag M15 103 48 ((6 : Int32) + x1)).bind fun v16 =>
        some (v16, M15)
      else
        some ((-1 : Int32), M)
set_option maxHeartbeats 1000000 in
set_option maxRecDepth 20000 in
theorem t_X12_say {g : GG} {d : Nat} (hd : 5 ≤ d) {x1 : Int32} {x2 : Int32} {M : Mem} {r : Int32} {M' : Mem} (hf : f_X12_say x1 x2 M = some (r, M')) : ExM g d iX12_say [.ref 67, .int x1, .int x2] LAY M (some (.int r), LAY, M') := by
  have hd1 : 1 ≤ d := by omega
  refine ExM.main pnX12 rfl (ls := [some (.ref 67), some (.int x1), some (.int x2)]) rfl ?_
  intro P hP
  rw [f_X12_say] at hf
  refine x_aload_n hP dX12_say_0 rfl ?_
  refine x_iload_n hP dX12_say_1 rfl ?_
  obtain ⟨v2, hc1, hf⟩ := b_bd hf
  refine y_cvi hP oX12_isOut lX12_420 [.int x1] [] rfl rfl rfl lay67 dX12_say_2 (t_X12_isOut (d := d - 1) (by omega) hc1) (by omega) ?_
  refine x_if_eq hP dX12_say_5 (tgt := 32) (by decide) (fun c3 => ?_) (fun c3 => ?_)
  · replace hf := p_t c3 hf
    refine x_iconst hP dX12_say_32 (v := (-1)) rfl ?_
    cases hf
    exact x_iret hP rfl dX12_say_33
  · replace hf := p_f c3 hf
    refine x_aload_n hP dX12_say_8 rfl ?_
    refine x_iload_n hP dX12_say_9 rfl ?_
    obtain ⟨v5, hc4, hf⟩ := b_bd hf
    refine y_cvi hP oX12_isWord lX12_411 [.int x2] [] rfl rfl rfl lay67 dX12_say_10 (t_X12_isWord (d := d - 1) (by omega) hc4) (by omega) ?_
    refine x_if_eq hP dX12_say_13 (tgt := 32) (by decide) (fun c6 => ?_) (fun c6 => ?_)
    · replace hf := p_t c6 hf
      refine x_iconst hP dX12_say_32 (v := (-1)) rfl ?_
      cases hf
      exact x_iret hP rfl dX12_say_33
    · replace hf := p_f c6 hf
      refine x_aload_n hP dX12_say_16 rfl ?_
      refine x_getA hP fX12_125 lay67 (r := 103) rfl dX12_say_17 ?_
      refine x_iload_n hP dX12_say_20 rfl ?_
      obtain ⟨v7, hiv7, hv7, hf⟩ := b_ag hf
      refine y_ald hP lay103 hiv7 hv7 dX12_say_21 ?_
      refine x_aload_n hP dX12_say_22 rfl ?_
      refine x_getA hP fX12_125 lay67 (r := 103) rfl dX12_say_23 ?_
      refine x_bipush hP dX12_say_26 (v := 46) rfl ?_
      obtain ⟨v8, hiv8, hv8, hf⟩ := b_ag hf
      refine y_ald hP lay103 hiv8 hv8 dX12_say_28 ?_
      refine x_icmp_eq hP dX12_say_29 (tgt := 34) (by decide) (fun c9 => ?_) (fun c9 => ?_)
      · replace hf := p_t c9 hf
        refine x_aload_n hP dX12_say_34 rfl ?_
        obtain ⟨M11, hc10, hf⟩ := b_bd hf
        refine y_cvv hP oX12_copies lX12_347 [] [] rfl rfl rfl lay67 dX12_say_35 (t_X12_copies (d := d - 1) (by omega) hc10) (by omega) ?_
        refine x_aload_n hP dX12_say_38 rfl ?_
        refine x_iload_n hP dX12_say_39 rfl ?_
        refine x_iload_n hP dX12_say_40 rfl ?_
        obtain ⟨M13, hc12, hf⟩ := b_bd hf
        refine y_cvv hP oX12_says lX12_423 [.int x1, .int x2] [] rfl rfl rfl lay67 dX12_say_41 (t_X12_says (d := d - 1) (by omega) hc12) (by omega) ?_
        refine x_aload_n hP dX12_say_44 rfl ?_
        obtain ⟨M15, hc14, hf⟩ := b_bd hf
        refine y_cvv hP oX12_records lX12_417 [] [] rfl rfl rfl lay67 dX12_say_45 (t_X12_records (d := d - 1) (by omega) hc14) (by omega) ?_
        refine x_aload_n hP dX12_say_48 rfl ?_
        refine x_getA hP fX12_125 lay67 (r := 103) rfl dX12_say_49 ?_
        refine x_bipush hP dX12_say_52 (v := 6) rfl ?_
        refine x_iload_n hP dX12_say_54 rfl ?_
        refine x_iadd hP dX12_say_55 ?_
        obtain ⟨v16, hiv16, hv16, hf⟩ := b_ag hf
        refine y_ald hP lay103 hiv16 hv16 dX12_say_56 ?_
        cases hf
        exact x_iret hP rfl dX12_say_57
      · replace hf := p_f c9 hf
        refine x_iconst hP dX12_say_32 (v := (-1)) rfl ?_
        cases hf
        exact x_iret hP rfl dX12_say_33
def f_X12_move (x1 : Int32) (x2 : Int32) (M : Mem) : Option (Int32 × Mem) :=
  (f_X12_isOut x1 M).bind fun v2 =>
  if v2 = 0 then
    some ((0 : Int32), M)
  else
    (f_X12_isCorner x2 M).bind fun v5 =>
    if v5 = 0 then
      some ((0 : Int32), M)
    else
      (ag M 103 48 x1).bind fun v7 =>
      if v7 = x2 then
        some ((0 : Int32), M)
      else
        (f_X12_copies M).bind fun M10 =>
        (pg M10 104 48 x1 x2).bind fun M11 =>
        (f_X12_records M11).bind fun M13 =>
        some ((1 : Int32), M13)
set_option maxHeartbeats 1000000 in
set_option maxRecDepth 20000 in
theorem t_X12_move {g : GG} {d : Nat} (hd : 4 ≤ d) {x1 : Int32} {x2 : Int32} {M : Mem} {r : Int32} {M' : Mem} (hf : f_X12_move x1 x2 M = some (r, M')) : ExM g d iX12_move [.ref 67, .int x1, .int x2] LAY M (some (.int r), LAY, M') := by
  have hd1 : 1 ≤ d := by omega
  refine ExM.main pnX12 rfl (ls := [some (.ref 67), some (.int x1), some (.int x2)]) rfl ?_
  intro P hP
  rw [f_X12_move] at hf
  refine x_aload_n hP dX12_move_0 rfl ?_
  refine x_iload_n hP dX12_move_1 rfl ?_
  obtain ⟨v2, hc1, hf⟩ := b_bd hf
  refine y_cvi hP oX12_isOut lX12_420 [.int x1] [] rfl rfl rfl lay67 dX12_move_2 (t_X12_isOut (d := d - 1) (by omega) hc1) (by omega) ?_
  refine x_if_eq hP dX12_move_5 (tgt := 26) (by decide) (fun c3 => ?_) (fun c3 => ?_)
  · replace hf := p_t c3 hf
    refine x_iconst hP dX12_move_26 (v := 0) rfl ?_
    cases hf
    exact x_zret hP rfl (Or.inl rfl) dX12_move_27
  · replace hf := p_f c3 hf
    refine x_aload_n hP dX12_move_8 rfl ?_
    refine x_iload_n hP dX12_move_9 rfl ?_
    obtain ⟨v5, hc4, hf⟩ := b_bd hf
    refine y_cvi hP oX12_isCorner lX12_392 [.int x2] [] rfl rfl rfl lay67 dX12_move_10 (t_X12_isCorner (d := d - 1) (by omega) hc4) (by omega) ?_
    refine x_if_eq hP dX12_move_13 (tgt := 26) (by decide) (fun c6 => ?_) (fun c6 => ?_)
    · replace hf := p_t c6 hf
      refine x_iconst hP dX12_move_26 (v := 0) rfl ?_
      cases hf
      exact x_zret hP rfl (Or.inl rfl) dX12_move_27
    · replace hf := p_f c6 hf
      refine x_aload_n hP dX12_move_16 rfl ?_
      refine x_getA hP fX12_125 lay67 (r := 103) rfl dX12_move_17 ?_
      refine x_iload_n hP dX12_move_20 rfl ?_
      obtain ⟨v7, hiv7, hv7, hf⟩ := b_ag hf
      refine y_ald hP lay103 hiv7 hv7 dX12_move_21 ?_
      refine x_iload_n hP dX12_move_22 rfl ?_
      refine x_icmp_ne hP dX12_move_23 (tgt := 28) (by decide) (fun c8 => ?_) (fun c8 => ?_)
      · replace hf := p_f c8 hf
        refine x_aload_n hP dX12_move_28 rfl ?_
        obtain ⟨M10, hc9, hf⟩ := b_bd hf
        refine y_cvv hP oX12_copies lX12_347 [] [] rfl rfl rfl lay67 dX12_move_29 (t_X12_copies (d := d - 1) (by omega) hc9) (by omega) ?_
        refine x_aload_n hP dX12_move_32 rfl ?_
        refine x_getA hP fX12_128 lay67 (r := 104) rfl dX12_move_33 ?_
        refine x_iload_n hP dX12_move_36 rfl ?_
        refine x_iload_n hP dX12_move_37 rfl ?_
        obtain ⟨M11, hiM11, hM11, hf⟩ := b_pg hf
        refine y_ast hP lay104 hiM11 hM11 dX12_move_38 ?_
        refine x_aload_n hP dX12_move_39 rfl ?_
        obtain ⟨M13, hc12, hf⟩ := b_bd hf
        refine y_cvv hP oX12_records lX12_417 [] [] rfl rfl rfl lay67 dX12_move_40 (t_X12_records (d := d - 1) (by omega) hc12) (by omega) ?_
        refine x_iconst hP dX12_move_43 (v := 1) rfl ?_
        cases hf
        exact x_zret hP rfl (Or.inr rfl) dX12_move_44
      · replace hf := p_t c8 hf
        refine x_iconst hP dX12_move_26 (v := 0) rfl ?_
        cases hf
        exact x_zret hP rfl (Or.inl rfl) dX12_move_27
def f_X12_rouge (x1 : Int32) (M : Mem) : Option (Int32 × Mem) :=
  (f_X12_isOut x1 M).bind fun v2 =>
  if v2 = 0 then
    some ((0 : Int32), M)
  else
    (f_X12_copies M).bind fun M5 =>
    (ag M5 104 48 ((6 : Int32) + x1)).bind fun v6 =>
    (f_X12_within (v6 + (20 : Int32)) (0 : Int32) (999 : Int32)).bind fun v8 =>
    (pg M5 104 48 ((6 : Int32) + x1) v8).bind fun M9 =>
    (pg M9 104 48 ((30 : Int32) + x1) (1 : Int32)).bind fun M10 =>
    (f_X12_records M10).bind fun M12 =>
    some ((1 : Int32), M12)
set_option maxHeartbeats 1000000 in
set_option maxRecDepth 20000 in
theorem t_X12_rouge {g : GG} {d : Nat} (hd : 4 ≤ d) {x1 : Int32} {M : Mem} {r : Int32} {M' : Mem} (hf : f_X12_rouge x1 M = some (r, M')) : ExM g d iX12_rouge [.ref 67, .int x1] LAY M (some (.int r), LAY, M') := by
  have hd1 : 1 ≤ d := by omega
  refine ExM.main pnX12 rfl (ls := [some (.ref 67), some (.int x1)]) rfl ?_
  intro P hP
  rw [f_X12_rouge] at hf
  refine x_aload_n hP dX12_rouge_0 rfl ?_
  refine x_iload_n hP dX12_rouge_1 rfl ?_
  obtain ⟨v2, hc1, hf⟩ := b_bd hf
  refine y_cvi hP oX12_isOut lX12_420 [.int x1] [] rfl rfl rfl lay67 dX12_rouge_2 (t_X12_isOut (d := d - 1) (by omega) hc1) (by omega) ?_
  refine x_if_ne hP dX12_rouge_5 (tgt := 10) (by decide) (fun c3 => ?_) (fun c3 => ?_)
  · replace hf := p_f c3 hf
    refine x_aload_n hP dX12_rouge_10 rfl ?_
    obtain ⟨M5, hc4, hf⟩ := b_bd hf
    refine y_cvv hP oX12_copies lX12_347 [] [] rfl rfl rfl lay67 dX12_rouge_11 (t_X12_copies (d := d - 1) (by omega) hc4) (by omega) ?_
    refine x_aload_n hP dX12_rouge_14 rfl ?_
    refine x_getA hP fX12_128 lay67 (r := 104) rfl dX12_rouge_15 ?_
    refine x_bipush hP dX12_rouge_18 (v := 6) rfl ?_
    refine x_iload_n hP dX12_rouge_20 rfl ?_
    refine x_iadd hP dX12_rouge_21 ?_
    refine x_aload_n hP dX12_rouge_22 rfl ?_
    refine x_getA hP fX12_128 lay67 (r := 104) rfl dX12_rouge_23 ?_
    refine x_bipush hP dX12_rouge_26 (v := 6) rfl ?_
    refine x_iload_n hP dX12_rouge_28 rfl ?_
    refine x_iadd hP dX12_rouge_29 ?_
    obtain ⟨v6, hiv6, hv6, hf⟩ := b_ag hf
    refine y_ald hP lay104 hiv6 hv6 dX12_rouge_30 ?_
    refine x_bipush hP dX12_rouge_31 (v := 20) rfl ?_
    refine x_iadd hP dX12_rouge_33 ?_
    refine x_iconst hP dX12_rouge_34 (v := 0) rfl ?_
    refine x_sipush hP dX12_rouge_35 (v := 999) rfl ?_
    obtain ⟨v8, hc7, hf⟩ := b_bd hf
    refine y_csi hP oX12_within lX12_367 [.int (v6 + (20 : Int32)), .int (0 : Int32), .int (999 : Int32)] [.int ((6 : Int32) + x1), .ref 104] rfl rfl rfl dX12_rouge_38 (t_X12_within (d := d - 1) (by omega) hc7) (by omega) ?_
    obtain ⟨M9, hiM9, hM9, hf⟩ := b_pg hf
    refine y_ast hP lay104 hiM9 hM9 dX12_rouge_41 ?_
    refine x_aload_n hP dX12_rouge_42 rfl ?_
    refine x_getA hP fX12_128 lay67 (r := 104) rfl dX12_rouge_43 ?_
    refine x_bipush hP dX12_rouge_46 (v := 30) rfl ?_
    refine x_iload_n hP dX12_rouge_48 rfl ?_
    refine x_iadd hP dX12_rouge_49 ?_
    refine x_iconst hP dX12_rouge_50 (v := 1) rfl ?_
    obtain ⟨M10, hiM10, hM10, hf⟩ := b_pg hf
    refine y_ast hP lay104 hiM10 hM10 dX12_rouge_51 ?_
    refine x_aload_n hP dX12_rouge_52 rfl ?_
    obtain ⟨M12, hc11, hf⟩ := b_bd hf
    refine y_cvv hP oX12_records lX12_417 [] [] rfl rfl rfl lay67 dX12_rouge_53 (t_X12_records (d := d - 1) (by omega) hc11) (by omega) ?_
    refine x_iconst hP dX12_rouge_56 (v := 1) rfl ?_
    cases hf
    exact x_zret hP rfl (Or.inr rfl) dX12_rouge_57
  · replace hf := p_t c3 hf
    refine x_iconst hP dX12_rouge_8 (v := 0) rfl ?_
    cases hf
    exact x_zret hP rfl (Or.inl rfl) dX12_rouge_9
def f_X12_hours (x1 : Int32) (M : Mem) : Option (Int32 × Mem) :=
  (f_X12_in x1 (0 : Int32) (72 : Int32)).bind fun v2 =>
  if v2 = 0 then
    some ((-1 : Int32), M)
  else
    if x1 = 0 then
      (ag M 103 48 (47 : Int32)).bind fun v5 =>
      some (v5, M)
    else
      (f_X12_copies M).bind fun M7 =>
      (f_X12_goes x1 M7).bind fun M9 =>
      (f_X12_records M9).bind fun M11 =>
      (ag M11 103 48 (47 : Int32)).bind fun v12 =>
      some (v12, M11)
set_option maxHeartbeats 1000000 in
set_option maxRecDepth 20000 in
theorem t_X12_hours {g : GG} {d : Nat} (hd : 6 ≤ d) {x1 : Int32} {M : Mem} {r : Int32} {M' : Mem} (hf : f_X12_hours x1 M = some (r, M')) : ExM g d iX12_hours [.ref 67, .int x1] LAY M (some (.int r), LAY, M') := by
  have hd1 : 1 ≤ d := by omega
  refine ExM.main pnX12 rfl (ls := [some (.ref 67), some (.int x1)]) rfl ?_
  intro P hP
  rw [f_X12_hours] at hf
  refine x_iload_n hP dX12_hours_0 rfl ?_
  refine x_iconst hP dX12_hours_1 (v := 0) rfl ?_
  refine x_bipush hP dX12_hours_2 (v := 72) rfl ?_
  obtain ⟨v2, hc1, hf⟩ := b_bd hf
  refine y_csi hP oX12_in lX12_334 [.int x1, .int (0 : Int32), .int (72 : Int32)] [] rfl rfl rfl dX12_hours_4 (t_X12_in (d := d - 1) (by omega) hc1) (by omega) ?_
  refine x_if_ne hP dX12_hours_7 (tgt := 12) (by decide) (fun c3 => ?_) (fun c3 => ?_)
  · replace hf := p_f c3 hf
    refine x_iload_n hP dX12_hours_12 rfl ?_
    refine x_if_ne hP dX12_hours_13 (tgt := 24) (by decide) (fun c4 => ?_) (fun c4 => ?_)
    · replace hf := p_f c4 hf
      refine x_aload_n hP dX12_hours_24 rfl ?_
      obtain ⟨M7, hc6, hf⟩ := b_bd hf
      refine y_cvv hP oX12_copies lX12_347 [] [] rfl rfl rfl lay67 dX12_hours_25 (t_X12_copies (d := d - 1) (by omega) hc6) (by omega) ?_
      refine x_aload_n hP dX12_hours_28 rfl ?_
      refine x_iload_n hP dX12_hours_29 rfl ?_
      obtain ⟨M9, hc8, hf⟩ := b_bd hf
      refine y_cvv hP oX12_goes lX12_426 [.int x1] [] rfl rfl rfl lay67 dX12_hours_30 (t_X12_goes (d := d - 1) (by omega) hc8) (by omega) ?_
      refine x_aload_n hP dX12_hours_33 rfl ?_
      obtain ⟨M11, hc10, hf⟩ := b_bd hf
      refine y_cvv hP oX12_records lX12_417 [] [] rfl rfl rfl lay67 dX12_hours_34 (t_X12_records (d := d - 1) (by omega) hc10) (by omega) ?_
      refine x_aload_n hP dX12_hours_37 rfl ?_
      refine x_getA hP fX12_125 lay67 (r := 103) rfl dX12_hours_38 ?_
      refine x_bipush hP dX12_hours_41 (v := 47) rfl ?_
      obtain ⟨v12, hiv12, hv12, hf⟩ := b_ag hf
      refine y_ald hP lay103 hiv12 hv12 dX12_hours_43 ?_
      cases hf
      exact x_iret hP rfl dX12_hours_44
    · replace hf := p_t c4 hf
      refine x_aload_n hP dX12_hours_16 rfl ?_
      refine x_getA hP fX12_125 lay67 (r := 103) rfl dX12_hours_17 ?_
      refine x_bipush hP dX12_hours_20 (v := 47) rfl ?_
      obtain ⟨v5, hiv5, hv5, hf⟩ := b_ag hf
      refine y_ald hP lay103 hiv5 hv5 dX12_hours_22 ?_
      cases hf
      exact x_iret hP rfl dX12_hours_23
  · replace hf := p_t c3 hf
    refine x_iconst hP dX12_hours_10 (v := (-1)) rfl ?_
    cases hf
    exact x_iret hP rfl dX12_hours_11
def f_X12_undo_L21 : Nat → Int32 → Mem → Option (Mem)
  | 0, _, _ => none
  | fu + 1, l1, M =>
    if (48 : Int32) ≤ l1 then
      some M
    else
      (ag M 108 1920 (((48 : Int32) * (M.1 67 60)) + l1)).bind fun v4 =>
      (pg M 103 48 l1 v4).bind fun M5 =>
      lt (l1 + 1 : Int32) fun v6 =>
      f_X12_undo_L21 fu v6 M5
def f_X12_undo (M : Mem) : Option (Int32 × Mem) :=
  if M.1 67 60 = 0 then
    some ((0 : Int32), M)
  else
    lt (sI M 67 60 ((M.1 67 60) - (1 : Int32))) fun M2 =>
    (f_X12_undo_L21 FU (0 : Int32) M2).bind fun t7 =>
    some ((1 : Int32), t7)
set_option maxHeartbeats 1000000 in
set_option maxRecDepth 20000 in
theorem t_X12_undo_L21 {g : GG} {d : Nat} {P : PT} {res : Option RS} (hd : 1 ≤ d)  (hP : IsM g iX12_undo d res P) : ∀ (fu : Nat) (l1 : Int32) (M : Mem) (t : Mem), f_X12_undo_L21 fu l1 M = some t → P 53 [none, none] [] LAY t → P 21 [some (.ref 67), some (.int l1)] [] LAY M := by
  have hd1 : 1 ≤ d := by omega
  intro fu
  induction fu with
  | zero => intro l1 M t hf; simp [f_X12_undo_L21] at hf
  | succ fu ih =>
    intro l1 M t hf hx
    rw [f_X12_undo_L21] at hf
    refine x_iload_n hP dX12_undo_21 rfl ?_
    refine x_bipush hP dX12_undo_22 (v := 48) rfl ?_
    refine x_icmp_ge hP dX12_undo_24 (tgt := 53) (by decide) (fun c3 => ?_) (fun c3 => ?_)
    · replace hf := p_t c3 hf
      refine x_drop hP [none, none] trivial ?_
      cases hf
      exact hx
    · replace hf := p_f c3 hf
      refine x_aload_n hP dX12_undo_27 rfl ?_
      refine x_getA hP fX12_125 lay67 (r := 103) rfl dX12_undo_28 ?_
      refine x_iload_n hP dX12_undo_31 rfl ?_
      refine x_aload_n hP dX12_undo_32 rfl ?_
      refine x_getA hP fX12_140 lay67 (r := 108) rfl dX12_undo_33 ?_
      refine x_bipush hP dX12_undo_36 (v := 48) rfl ?_
      refine x_aload_n hP dX12_undo_38 rfl ?_
      refine x_getI hP fX12_269 lay67 dX12_undo_39 ?_
      refine x_imul hP dX12_undo_42 ?_
      refine x_iload_n hP dX12_undo_43 rfl ?_
      refine x_iadd hP dX12_undo_44 ?_
      obtain ⟨v4, hiv4, hv4, hf⟩ := b_ag hf
      refine y_ald hP lay108 hiv4 hv4 dX12_undo_45 ?_
      obtain ⟨M5, hiM5, hM5, hf⟩ := b_pg hf
      refine y_ast hP lay103 hiM5 hM5 dX12_undo_46 ?_
      obtain ⟨v6, hv6, hf⟩ := b_lt hf
      refine x_iinc hP (v := v6) (ls2 := [some (.ref 67), some (.int v6)]) dX12_undo_47 rfl (by rw [hv6]; rfl) rfl rfl ?_
      refine x_goto hP dX12_undo_50 (tgt := 21) (by decide) ?_
      refine x_drop hP [some (.ref 67), some (.int v6)] (And.intro rfl (And.intro rfl trivial)) ?_
      exact ih _ _ _ hf hx
set_option maxHeartbeats 1000000 in
set_option maxRecDepth 20000 in
theorem t_X12_undo {g : GG} {d : Nat} (hd : 1 ≤ d) {M : Mem} {r : Int32} {M' : Mem} (hf : f_X12_undo M = some (r, M')) : ExM g d iX12_undo [.ref 67] LAY M (some (.int r), LAY, M') := by
  have hd1 : 1 ≤ d := by omega
  refine ExM.main pnX12 rfl (ls := [some (.ref 67), none]) rfl ?_
  intro P hP
  rw [f_X12_undo] at hf
  refine x_aload_n hP dX12_undo_0 rfl ?_
  refine x_getI hP fX12_269 lay67 dX12_undo_1 ?_
  refine x_if_ne hP dX12_undo_4 (tgt := 9) (by decide) (fun c1 => ?_) (fun c1 => ?_)
  · replace hf := p_f c1 hf
    refine x_aload_n hP dX12_undo_9 rfl ?_
    refine x_dup hP dX12_undo_10 rfl ?_
    refine x_getI hP fX12_269 lay67 dX12_undo_11 ?_
    refine x_iconst hP dX12_undo_14 (v := 1) rfl ?_
    refine x_isub hP dX12_undo_15 ?_
    obtain ⟨M2, hM2, hf⟩ := b_lt hf
    refine y_putI hP fX12_269 lay67 hM2 dX12_undo_16 ?_
    refine x_iconst hP dX12_undo_19 (v := 0) rfl ?_
    refine x_istore_n hP (ls2 := [some (.ref 67), some (.int (0 : Int32))]) dX12_undo_20 rfl rfl rfl ?_
    refine x_drop hP [some (.ref 67), some (.int (0 : Int32))] (And.intro rfl (And.intro rfl trivial)) ?_
    obtain ⟨t7, hl8, hf⟩ := b_bd hf
    refine t_X12_undo_L21 hd hP _ _ _ _ hl8 ?_
    refine x_iconst hP dX12_undo_53 (v := 1) rfl ?_
    cases hf
    exact x_zret hP rfl (Or.inr rfl) dX12_undo_54
  · replace hf := p_t c1 hf
    refine x_iconst hP dX12_undo_7 (v := 0) rfl ?_
    cases hf
    exact x_zret hP rfl (Or.inl rfl) dX12_undo_8

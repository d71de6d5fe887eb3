-- by program: wip/whole/gen/build_parts.py
def f_X12_put_L3 : Nat → Int32 → Int32 → Mem → Option (Mem)
  | 0, _, _, _ => none
  | fu + 1, l1, l2, M =>
    if l2 < 0 then
      some M
    else
      (pb M 68 2000 (M.1 67 2) ((l1 >>> (l2 &&& 31)).toInt8.toInt32)).bind fun M2 =>
      lt (sI M2 67 2 ((M2.1 67 2) + (1 : Int32))) fun M3 =>
      lt (l2 + (-8) : Int32) fun v4 =>
      f_X12_put_L3 fu l1 v4 M3
def f_X12_put (x1 : Int32) (M : Mem) : Option (Mem) :=
  (f_X12_put_L3 FU x1 (24 : Int32) M).bind fun t5 =>
  some t5
set_option maxHeartbeats 1000000 in
set_option maxRecDepth 20000 in
theorem t_X12_put_L3 {g : GG} {d : Nat} {P : PT} {res : Option RS} (hd : 1 ≤ d)  (hP : IsM g iX12_put d res P) : ∀ (fu : Nat) (l1 : Int32) (l2 : Int32) (M : Mem) (t : Mem), f_X12_put_L3 fu l1 l2 M = some t → P 36 [none, none, none] [] LAY t → P 3 [some (.ref 67), some (.int l1), some (.int l2)] [] LAY M := by
  have hd1 : 1 ≤ d := by omega
  intro fu
  induction fu with
  | zero => intro l1 l2 M t hf; simp [f_X12_put_L3] at hf
  | succ fu ih =>
    intro l1 l2 M t hf hx
    rw [f_X12_put_L3] at hf
    refine x_iload_n hP dX12_put_3 rfl ?_
    refine x_if_lt hP dX12_put_4 (tgt := 36) (by decide) (fun c1 => ?_) (fun c1 => ?_)
    · replace hf := p_t c1 hf
      refine x_drop hP [none, none, none] trivial ?_
      cases hf
      exact hx
    · replace hf := p_f c1 hf
      refine x_aload_n hP dX12_put_7 rfl ?_
      refine x_getA hP fX12_13 lay67 (r := 68) rfl dX12_put_8 ?_
      refine x_aload_n hP dX12_put_11 rfl ?_
      refine x_getI hP fX12_184 lay67 dX12_put_12 ?_
      refine x_iload_n hP dX12_put_15 rfl ?_
      refine x_iload_n hP dX12_put_16 rfl ?_
      refine x_ishr hP dX12_put_17 ?_
      refine x_i2b hP dX12_put_18 ?_
      obtain ⟨M2, hiM2, hM2, hf⟩ := b_pb hf
      refine y_bst hP lay68 hiM2 hM2 dX12_put_19 ?_
      refine x_aload_n hP dX12_put_20 rfl ?_
      refine x_dup hP dX12_put_21 rfl ?_
      refine x_getI hP fX12_184 lay67 dX12_put_22 ?_
      refine x_iconst hP dX12_put_25 (v := 1) rfl ?_
      refine x_iadd hP dX12_put_26 ?_
      obtain ⟨M3, hM3, hf⟩ := b_lt hf
      refine y_putI hP fX12_184 lay67 hM3 dX12_put_27 ?_
      obtain ⟨v4, hv4, hf⟩ := b_lt hf
      refine x_iinc hP (v := v4) (ls2 := [some (.ref 67), some (.int l1), some (.int v4)]) dX12_put_30 rfl (by rw [hv4]; rfl) rfl rfl ?_
      refine x_goto hP dX12_put_33 (tgt := 3) (by decide) ?_
      refine x_drop hP [some (.ref 67), some (.int l1), some (.int v4)] (And.intro rfl (And.intro rfl (And.intro rfl trivial))) ?_
      exact ih _ _ _ _ hf hx
set_option maxHeartbeats 1000000 in
set_option maxRecDepth 20000 in
theorem t_X12_put {g : GG} {d : Nat} (hd : 1 ≤ d) {x1 : Int32} {M : Mem} {M' : Mem} (hf : f_X12_put x1 M = some M') : ExM g d iX12_put [.ref 67, .int x1] LAY M (none, LAY, M') := by
  have hd1 : 1 ≤ d := by omega
  refine ExM.main pnX12 rfl (ls := [some (.ref 67), some (.int x1), none]) rfl ?_
  intro P hP
  rw [f_X12_put] at hf
  refine x_bipush hP dX12_put_0 (v := 24) rfl ?_
  refine x_istore_n hP (ls2 := [some (.ref 67), some (.int x1), some (.int (24 : Int32))]) dX12_put_2 rfl rfl rfl ?_
  refine x_drop hP [some (.ref 67), some (.int x1), some (.int (24 : Int32))] (And.intro rfl (And.intro rfl (And.intro rfl trivial))) ?_
  obtain ⟨t5, hl6, hf⟩ := b_bd hf
  refine t_X12_put_L3 hd hP _ _ _ _ _ hl6 ?_
  cases hf
  exact x_vret hP rfl dX12_put_36
def f_X12_feed (x1 : Int32) (x2 : Int32) (x3 : Int32) (x4 : Int32) (x5 : Int32) (M : Mem) : Option (Int32 × Mem) :=
  if (M.1 67 2) + (20 : Int32) ≤ (2000 : Int32) then
    (f_X12_put x1 M).bind fun M3 =>
    (f_X12_put x2 M3).bind fun M5 =>
    (f_X12_put x3 M5).bind fun M7 =>
    (f_X12_put x4 M7).bind fun M9 =>
    (f_X12_put x5 M9).bind fun M11 =>
    some (M11.1 67 2, M11)
  else
    some ((-1 : Int32), M)
set_option maxHeartbeats 1000000 in
set_option maxRecDepth 20000 in
theorem t_X12_feed {g : GG} {d : Nat} (hd : 2 ≤ d) {x1 : Int32} {x2 : Int32} {x3 : Int32} {x4 : Int32} {x5 : Int32} {M : Mem} {r : Int32} {M' : Mem} (hf : f_X12_feed x1 x2 x3 x4 x5 M = some (r, M')) : ExM g d iX12_feed [.ref 67, .int x1, .int x2, .int x3, .int x4, .int x5] LAY M (some (.int r), LAY, M') := by
  have hd1 : 1 ≤ d := by omega
  refine ExM.main pnX12 rfl (ls := [some (.ref 67), some (.int x1), some (.int x2), some (.int x3), some (.int x4), some (.int x5)]) rfl ?_
  intro P hP
  rw [f_X12_feed] at hf
  refine x_aload_n hP dX12_feed_0 rfl ?_
  refine x_getI hP fX12_184 lay67 dX12_feed_1 ?_
  refine x_bipush hP dX12_feed_4 (v := 20) rfl ?_
  refine x_iadd hP dX12_feed_6 ?_
  refine x_sipush hP dX12_feed_7 (v := 2000) rfl ?_
  refine x_icmp_le hP dX12_feed_10 (tgt := 15) (by decide) (fun c1 => ?_) (fun c1 => ?_)
  · replace hf := p_t c1 hf
    refine x_aload_n hP dX12_feed_15 rfl ?_
    refine x_iload_n hP dX12_feed_16 rfl ?_
    obtain ⟨M3, hc2, hf⟩ := b_bd hf
    refine y_cvv hP oX12_put lX12_187 [.int x1] [] rfl rfl rfl lay67 dX12_feed_17 (t_X12_put (d := d - 1) (by omega) hc2) (by omega) ?_
    refine x_aload_n hP dX12_feed_20 rfl ?_
    refine x_iload_n hP dX12_feed_21 rfl ?_
    obtain ⟨M5, hc4, hf⟩ := b_bd hf
    refine y_cvv hP oX12_put lX12_187 [.int x2] [] rfl rfl rfl lay67 dX12_feed_22 (t_X12_put (d := d - 1) (by omega) hc4) (by omega) ?_
    refine x_aload_n hP dX12_feed_25 rfl ?_
    refine x_iload_n hP dX12_feed_26 rfl ?_
    obtain ⟨M7, hc6, hf⟩ := b_bd hf
    refine y_cvv hP oX12_put lX12_187 [.int x3] [] rfl rfl rfl lay67 dX12_feed_27 (t_X12_put (d := d - 1) (by omega) hc6) (by omega) ?_
    refine x_aload_n hP dX12_feed_30 rfl ?_
    refine x_iload hP dX12_feed_31 rfl ?_
    obtain ⟨M9, hc8, hf⟩ := b_bd hf
    refine y_cvv hP oX12_put lX12_187 [.int x4] [] rfl rfl rfl lay67 dX12_feed_33 (t_X12_put (d := d - 1) (by omega) hc8) (by omega) ?_
    refine x_aload_n hP dX12_feed_36 rfl ?_
    refine x_iload hP dX12_feed_37 rfl ?_
    obtain ⟨M11, hc10, hf⟩ := b_bd hf
    refine y_cvv hP oX12_put lX12_187 [.int x5] [] rfl rfl rfl lay67 dX12_feed_39 (t_X12_put (d := d - 1) (by omega) hc10) (by omega) ?_
    refine x_aload_n hP dX12_feed_42 rfl ?_
    refine x_getI hP fX12_184 lay67 dX12_feed_43 ?_
    cases hf
    exact x_iret hP rfl dX12_feed_46
  · replace hf := p_f c1 hf
    refine x_iconst hP dX12_feed_13 (v := (-1)) rfl ?_
    cases hf
    exact x_iret hP rfl dX12_feed_14
def f_X12_back (x1 : Int32) (M : Mem) : Option (Int32 × Mem) :=
  if x1 < 0 then
    some ((-1 : Int32), M)
  else
    if x1 ≤ M.1 67 2 then
      lt (sI M 67 2 ((M.1 67 2) - x1)) fun M3 =>
      some (M3.1 67 2, M3)
    else
      some ((-1 : Int32), M)
set_option maxHeartbeats 1000000 in
set_option maxRecDepth 20000 in
theorem t_X12_back {g : GG} {d : Nat} (hd : 1 ≤ d) {x1 : Int32} {M : Mem} {r : Int32} {M' : Mem} (hf : f_X12_back x1 M = some (r, M')) : ExM g d iX12_back [.ref 67, .int x1] LAY M (some (.int r), LAY, M') := by
  have hd1 : 1 ≤ d := by omega
  refine ExM.main pnX12 rfl (ls := [some (.ref 67), some (.int x1)]) rfl ?_
  intro P hP
  rw [f_X12_back] at hf
  refine x_iload_n hP dX12_back_0 rfl ?_
  refine x_if_lt hP dX12_back_1 (tgt := 12) (by decide) (fun c1 => ?_) (fun c1 => ?_)
  · replace hf := p_t c1 hf
    refine x_iconst hP dX12_back_12 (v := (-1)) rfl ?_
    cases hf
    exact x_iret hP rfl dX12_back_13
  · replace hf := p_f c1 hf
    refine x_iload_n hP dX12_back_4 rfl ?_
    refine x_aload_n hP dX12_back_5 rfl ?_
    refine x_getI hP fX12_184 lay67 dX12_back_6 ?_
    refine x_icmp_le hP dX12_back_9 (tgt := 14) (by decide) (fun c2 => ?_) (fun c2 => ?_)
    · replace hf := p_t c2 hf
      refine x_aload_n hP dX12_back_14 rfl ?_
      refine x_dup hP dX12_back_15 rfl ?_
      refine x_getI hP fX12_184 lay67 dX12_back_16 ?_
      refine x_iload_n hP dX12_back_19 rfl ?_
      refine x_isub hP dX12_back_20 ?_
      obtain ⟨M3, hM3, hf⟩ := b_lt hf
      refine y_putI hP fX12_184 lay67 hM3 dX12_back_21 ?_
      refine x_aload_n hP dX12_back_24 rfl ?_
      refine x_getI hP fX12_184 lay67 dX12_back_25 ?_
      cases hf
      exact x_iret hP rfl dX12_back_28
    · replace hf := p_f c2 hf
      refine x_iconst hP dX12_back_12 (v := (-1)) rfl ?_
      cases hf
      exact x_iret hP rfl dX12_back_13
def f_X12_byteAt (x1 : Int32) (M : Mem) : Option (Int32) :=
  if M.1 67 4 ≤ x1 then
    some (0 : Int32)
  else
    (ag M 69 2000 x1).bind fun v2 =>
    some (v2 &&& (255 : Int32))
set_option maxHeartbeats 1000000 in
set_option maxRecDepth 20000 in
theorem t_X12_byteAt {g : GG} {d : Nat} (hd : 1 ≤ d) {x1 : Int32} {M : Mem} {r : Int32} (hf : f_X12_byteAt x1 M = some r) : ExM g d iX12_byteAt [.ref 67, .int x1] LAY M (some (.int r), LAY, M) := by
  have hd1 : 1 ≤ d := by omega
  refine ExM.main pnX12 rfl (ls := [some (.ref 67), some (.int x1)]) rfl ?_
  intro P hP
  rw [f_X12_byteAt] at hf
  refine x_iload_n hP dX12_byteAt_0 rfl ?_
  refine x_aload_n hP dX12_byteAt_1 rfl ?_
  refine x_getI hP fX12_190 lay67 dX12_byteAt_2 ?_
  refine x_icmp_ge hP dX12_byteAt_5 (tgt := 21) (by decide) (fun c1 => ?_) (fun c1 => ?_)
  · replace hf := p_t c1 hf
    refine x_iconst hP dX12_byteAt_21 (v := 0) rfl ?_
    cases hf
    exact x_iret hP rfl dX12_byteAt_22
  · replace hf := p_f c1 hf
    refine x_aload_n hP dX12_byteAt_8 rfl ?_
    refine x_getA hP fX12_17 lay67 (r := 69) rfl dX12_byteAt_9 ?_
    refine x_iload_n hP dX12_byteAt_12 rfl ?_
    obtain ⟨v2, hiv2, hv2, hf⟩ := b_ag hf
    refine y_bld hP lay69 hiv2 hv2 dX12_byteAt_13 ?_
    refine x_sipush hP dX12_byteAt_14 (v := 255) rfl ?_
    refine x_iand hP dX12_byteAt_17 ?_
    refine x_goto hP dX12_byteAt_18 (tgt := 22) (by decide) ?_
    cases hf
    exact x_iret hP rfl dX12_byteAt_22
def f_X12_isDigit (x0 : Int32) : Option (Int32) :=
  if x0 < (48 : Int32) then
    some (0 : Int32)
  else
    if (57 : Int32) < x0 then
      some (0 : Int32)
    else
      some (1 : Int32)
set_option maxHeartbeats 1000000 in
set_option maxRecDepth 20000 in
theorem t_X12_isDigit {g : GG} {L : List Lay} {d : Nat} (hd : 1 ≤ d) {x0 : Int32} {M : Mem} {r : Int32} (hf : f_X12_isDigit x0 = some r) : ExM g d iX12_isDigit [.int x0] L M (some (.int r), L, M) := by
  have hd1 : 1 ≤ d := by omega
  refine ExM.main pnX12 rfl (ls := [some (.int x0)]) rfl ?_
  intro P hP
  rw [f_X12_isDigit] at hf
  refine x_iload_n hP dX12_isDigit_0 rfl ?_
  refine x_bipush hP dX12_isDigit_1 (v := 48) rfl ?_
  refine x_icmp_lt hP dX12_isDigit_3 (tgt := 16) (by decide) (fun c1 => ?_) (fun c1 => ?_)
  · replace hf := p_t c1 hf
    refine x_iconst hP dX12_isDigit_16 (v := 0) rfl ?_
    cases hf
    exact x_zret hP rfl (Or.inl rfl) dX12_isDigit_17
  · replace hf := p_f c1 hf
    refine x_iload_n hP dX12_isDigit_6 rfl ?_
    refine x_bipush hP dX12_isDigit_7 (v := 57) rfl ?_
    refine x_icmp_gt hP dX12_isDigit_9 (tgt := 16) (by decide) (fun c2 => ?_) (fun c2 => ?_)
    · replace hf := p_t c2 hf
      refine x_iconst hP dX12_isDigit_16 (v := 0) rfl ?_
      cases hf
      exact x_zret hP rfl (Or.inl rfl) dX12_isDigit_17
    · replace hf := p_f c2 hf
      refine x_iconst hP dX12_isDigit_12 (v := 1) rfl ?_
      refine x_goto hP dX12_isDigit_13 (tgt := 17) (by decide) ?_
      cases hf
      exact x_zret hP rfl (Or.inr rfl) dX12_isDigit_17
def f_X12_isLetter (x0 : Int32) : Option (Int32) :=
  if x0 < (97 : Int32) then
    some (0 : Int32)
  else
    if (122 : Int32) < x0 then
      some (0 : Int32)
    else
      some (1 : Int32)
set_option maxHeartbeats 1000000 in
set_option maxRecDepth 20000 in
theorem t_X12_isLetter {g : GG} {L : List Lay} {d : Nat} (hd : 1 ≤ d) {x0 : Int32} {M : Mem} {r : Int32} (hf : f_X12_isLetter x0 = some r) : ExM g d iX12_isLetter [.int x0] L M (some (.int r), L, M) := by
  have hd1 : 1 ≤ d := by omega
  refine ExM.main pnX12 rfl (ls := [some (.int x0)]) rfl ?_
  intro P hP
  rw [f_X12_isLetter] at hf
  refine x_iload_n hP dX12_isLetter_0 rfl ?_
  refine x_bipush hP dX12_isLetter_1 (v := 97) rfl ?_
  refine x_icmp_lt hP dX12_isLetter_3 (tgt := 16) (by decide) (fun c1 => ?_) (fun c1 => ?_)
  · replace hf := p_t c1 hf
    refine x_iconst hP dX12_isLetter_16 (v := 0) rfl ?_
    cases hf
    exact x_zret hP rfl (Or.inl rfl) dX12_isLetter_17
  · replace hf := p_f c1 hf
    refine x_iload_n hP dX12_isLetter_6 rfl ?_
    refine x_bipush hP dX12_isLetter_7 (v := 122) rfl ?_
    refine x_icmp_gt hP dX12_isLetter_9 (tgt := 16) (by decide) (fun c2 => ?_) (fun c2 => ?_)
    · replace hf := p_t c2 hf
      refine x_iconst hP dX12_isLetter_16 (v := 0) rfl ?_
      cases hf
      exact x_zret hP rfl (Or.inl rfl) dX12_isLetter_17
    · replace hf := p_f c2 hf
      refine x_iconst hP dX12_isLetter_12 (v := 1) rfl ?_
      refine x_goto hP dX12_isLetter_13 (tgt := 17) (by decide) ?_
      cases hf
      exact x_zret hP rfl (Or.inr rfl) dX12_isLetter_17
def f_X12_appends (x0 : Int64) (x2 : Int32) : Option (Int64) :=
  if x2 = 0 then
    some x0
  else
    some (((27 : Int64) * x0) + (((x2 - (97 : Int32)) + (1 : Int32)).toInt64))
set_option maxHeartbeats 1000000 in
set_option maxRecDepth 20000 in
theorem t_X12_appends {g : GG} {L : List Lay} {d : Nat} (hd : 1 ≤ d) {x0 : Int64} {x2 : Int32} {M : Mem} {r : Int64} (hf : f_X12_appends x0 x2 = some r) : ExM g d iX12_appends [.long x0, .int x2] L M (some (.long r), L, M) := by
  have hd1 : 1 ≤ d := by omega
  refine ExM.main pnX12 rfl (ls := [some (.long x0), none, some (.int x2)]) rfl ?_
  intro P hP
  rw [f_X12_appends] at hf
  refine x_iload_n hP dX12_appends_0 rfl ?_
  refine x_if_ne hP dX12_appends_1 (tgt := 8) (by decide) (fun c1 => ?_) (fun c1 => ?_)
  · replace hf := p_f c1 hf
    refine x_ldc2 hP dX12_appends_8 qX12_193 ?_
    refine x_lload_n hP dX12_appends_11 rfl ?_
    refine x_lmul hP dX12_appends_12 ?_
    refine x_iload_n hP dX12_appends_13 rfl ?_
    refine x_bipush hP dX12_appends_14 (v := 97) rfl ?_
    refine x_isub hP dX12_appends_16 ?_
    refine x_iconst hP dX12_appends_17 (v := 1) rfl ?_
    refine x_iadd hP dX12_appends_18 ?_
    refine x_i2l hP dX12_appends_19 ?_
    refine x_ladd hP dX12_appends_20 ?_
    cases hf
    exact x_lret hP rfl dX12_appends_21
  · replace hf := p_t c1 hf
    refine x_lload_n hP dX12_appends_4 rfl ?_
    refine x_goto hP dX12_appends_5 (tgt := 21) (by decide) ?_
    cases hf
    exact x_lret hP rfl dX12_appends_21
def f_X12_word (x0 : Int32) (x1 : Int32) (x2 : Int32) (x3 : Int32) (x4 : Int32) (x5 : Int32) (x6 : Int32) : Option (Int64) :=
  (f_X12_appends (0 : Int64) x0).bind fun v2 =>
  (f_X12_appends v2 x1).bind fun v4 =>
  (f_X12_appends v4 x2).bind fun v6 =>
  (f_X12_appends v6 x3).bind fun v8 =>
  (f_X12_appends v8 x4).bind fun v10 =>
  (f_X12_appends v10 x5).bind fun v12 =>
  (f_X12_appends v12 x6).bind fun v14 =>
  some v14
set_option maxHeartbeats 1000000 in
set_option maxRecDepth 20000 in
theorem t_X12_word {g : GG} {L : List Lay} {d : Nat} (hd : 2 ≤ d) {x0 : Int32} {x1 : Int32} {x2 : Int32} {x3 : Int32} {x4 : Int32} {x5 : Int32} {x6 : Int32} {M : Mem} {r : Int64} (hf : f_X12_word x0 x1 x2 x3 x4 x5 x6 = some r) : ExM g d iX12_word [.int x0, .int x1, .int x2, .int x3, .int x4, .int x5, .int x6] L M (some (.long r), L, M) := by
  have hd1 : 1 ≤ d := by omega
  refine ExM.main pnX12 rfl (ls := [some (.int x0), some (.int x1), some (.int x2), some (.int x3), some (.int x4), some (.int x5), some (.int x6)]) rfl ?_
  intro P hP
  rw [f_X12_word] at hf
  refine x_lconst hP dX12_word_0 (v := 0) rfl ?_
  refine x_iload_n hP dX12_word_1 rfl ?_
  obtain ⟨v2, hc1, hf⟩ := b_bd hf
  refine y_csl hP oX12_appends lX12_195 [.long (0 : Int64), .int x0] [] rfl rfl rfl dX12_word_2 (t_X12_appends (d := d - 1) (by omega) hc1) (by omega) ?_
  refine x_iload_n hP dX12_word_5 rfl ?_
  obtain ⟨v4, hc3, hf⟩ := b_bd hf
  refine y_csl hP oX12_appends lX12_195 [.long v2, .int x1] [] rfl rfl rfl dX12_word_6 (t_X12_appends (d := d - 1) (by omega) hc3) (by omega) ?_
  refine x_iload_n hP dX12_word_9 rfl ?_
  obtain ⟨v6, hc5, hf⟩ := b_bd hf
  refine y_csl hP oX12_appends lX12_195 [.long v4, .int x2] [] rfl rfl rfl dX12_word_10 (t_X12_appends (d := d - 1) (by omega) hc5) (by omega) ?_
  refine x_iload_n hP dX12_word_13 rfl ?_
  obtain ⟨v8, hc7, hf⟩ := b_bd hf
  refine y_csl hP oX12_appends lX12_195 [.long v6, .int x3] [] rfl rfl rfl dX12_word_14 (t_X12_appends (d := d - 1) (by omega) hc7) (by omega) ?_
  refine x_iload hP dX12_word_17 rfl ?_
  obtain ⟨v10, hc9, hf⟩ := b_bd hf
  refine y_csl hP oX12_appends lX12_195 [.long v8, .int x4] [] rfl rfl rfl dX12_word_19 (t_X12_appends (d := d - 1) (by omega) hc9) (by omega) ?_
  refine x_iload hP dX12_word_22 rfl ?_
  obtain ⟨v12, hc11, hf⟩ := b_bd hf
  refine y_csl hP oX12_appends lX12_195 [.long v10, .int x5] [] rfl rfl rfl dX12_word_24 (t_X12_appends (d := d - 1) (by omega) hc11) (by omega) ?_
  refine x_iload hP dX12_word_27 rfl ?_
  obtain ⟨v14, hc13, hf⟩ := b_bd hf
  refine y_csl hP oX12_appends lX12_195 [.long v12, .int x6] [] rfl rfl rfl dX12_word_29 (t_X12_appends (d := d - 1) (by omega) hc13) (by omega) ?_
  cases hf
  exact x_lret hP rfl dX12_word_32
def f_X12_token (x1 : Int32) (x2 : Int32) (x3 : Int32) (x4 : Int64) (M : Mem) : Option (Mem) :=
  (pg M 70 403 (M.1 67 10) x1).bind fun M1 =>
  (pg M1 71 403 (M1.1 67 10) x2).bind fun M2 =>
  (pg M2 72 403 (M2.1 67 10) x3).bind fun M3 =>
  (pj M3 73 403 (M3.1 67 10) x4).bind fun M4 =>
  lt (sI M4 67 10 ((M4.1 67 10) + (1 : Int32))) fun M5 =>
  some M5
set_option maxHeartbeats 1000000 in
set_option maxRecDepth 20000 in
theorem t_X12_token {g : GG} {d : Nat} (hd : 1 ≤ d) {x1 : Int32} {x2 : Int32} {x3 : Int32} {x4 : Int64} {M : Mem} {M' : Mem} (hf : f_X12_token x1 x2 x3 x4 M = some M') : ExM g d iX12_token [.ref 67, .int x1, .int x2, .int x3, .long x4] LAY M (none, LAY, M') := by
  have hd1 : 1 ≤ d := by omega
  refine ExM.main pnX12 rfl (ls := [some (.ref 67), some (.int x1), some (.int x2), some (.int x3), some (.long x4), none]) rfl ?_
  intro P hP
  rw [f_X12_token] at hf
  refine x_aload_n hP dX12_token_0 rfl ?_
  refine x_getA hP fX12_20 lay67 (r := 70) rfl dX12_token_1 ?_
  refine x_aload_n hP dX12_token_4 rfl ?_
  refine x_getI hP fX12_199 lay67 dX12_token_5 ?_
  refine x_iload_n hP dX12_token_8 rfl ?_
  obtain ⟨M1, hiM1, hM1, hf⟩ := b_pg hf
  refine y_ast hP lay70 hiM1 hM1 dX12_token_9 ?_
  refine x_aload_n hP dX12_token_10 rfl ?_
  refine x_getA hP fX12_24 lay67 (r := 71) rfl dX12_token_11 ?_
  refine x_aload_n hP dX12_token_14 rfl ?_
  refine x_getI hP fX12_199 lay67 dX12_token_15 ?_
  refine x_iload_n hP dX12_token_18 rfl ?_
  obtain ⟨M2, hiM2, hM2, hf⟩ := b_pg hf
  refine y_ast hP lay71 hiM2 hM2 dX12_token_19 ?_
  refine x_aload_n hP dX12_token_20 rfl ?_
  refine x_getA hP fX12_27 lay67 (r := 72) rfl dX12_token_21 ?_
  refine x_aload_n hP dX12_token_24 rfl ?_
  refine x_getI hP fX12_199 lay67 dX12_token_25 ?_
  refine x_iload_n hP dX12_token_28 rfl ?_
  obtain ⟨M3, hiM3, hM3, hf⟩ := b_pg hf
  refine y_ast hP lay72 hiM3 hM3 dX12_token_29 ?_
  refine x_aload_n hP dX12_token_30 rfl ?_
  refine x_getA hP fX12_30 lay67 (r := 73) rfl dX12_token_31 ?_
  refine x_aload_n hP dX12_token_34 rfl ?_
  refine x_getI hP fX12_199 lay67 dX12_token_35 ?_
  refine x_lload hP dX12_token_38 rfl ?_
  obtain ⟨M4, hiM4, hM4, hf⟩ := b_pj hf
  refine y_lst hP lay73 hiM4 hM4 dX12_token_40 ?_
  refine x_aload_n hP dX12_token_41 rfl ?_
  refine x_dup hP dX12_token_42 rfl ?_
  refine x_getI hP fX12_199 lay67 dX12_token_43 ?_
  refine x_iconst hP dX12_token_46 (v := 1) rfl ?_
  refine x_iadd hP dX12_token_47 ?_
  obtain ⟨M5, hM5, hf⟩ := b_lt hf
  refine y_putI hP fX12_199 lay67 hM5 dX12_token_48 ?_
  cases hf
  exact x_vret hP rfl dX12_token_51
def f_X12_sign (x1 : Int32) (x2 : Int32) (x3 : Int32) (M : Mem) : Option (Int32 × Mem) :=
  lt (
    if x2 = (59 : Int32) then
      (4 : Int32)
    else
      if x2 = (61 : Int32) then
        (5 : Int32)
      else
        if x2 = (40 : Int32) then
          (6 : Int32)
        else
          if x2 = (41 : Int32) then
            (7 : Int32)
          else
            (3 : Int32)
   : Int32) fun t1 =>
  lt (
    if x2 = (43 : Int32) then
      (8 : Int32)
    else
      t1
   : Int32) fun t6 =>
  lt (
    if x2 = (45 : Int32) then
      (9 : Int32)
    else
      t6
   : Int32) fun t8 =>
  lt (
    if x2 = (42 : Int32) then
      (10 : Int32)
    else
      t8
   : Int32) fun t10 =>
  lt (
    if x2 = (47 : Int32) then
      (15 : Int32)
    else
      t10
   : Int32) fun t12 =>
  lt (
    if x2 = (60 : Int32) then
      (13 : Int32)
    else
      t12
   : Int32) fun t14 =>
  (f_X12_token t14 x1 (0 : Int32) (0 : Int64) M).bind fun M17 =>
  some ((1 : Int32), M17)
set_option maxHeartbeats 1000000 in
set_option maxRecDepth 20000 in
theorem t_X12_sign {g : GG} {d : Nat} (hd : 2 ≤ d) {x1 : Int32} {x2 : Int32} {x3 : Int32} {M : Mem} {r : Int32} {M' : Mem} (hf : f_X12_sign x1 x2 x3 M = some (r, M')) : ExM g d iX12_sign [.ref 67, .int x1, .int x2, .int x3] LAY M (some (.int r), LAY, M') := by
  have hd1 : 1 ≤ d := by omega
  refine ExM.main pnX12 rfl (ls := [some (.ref 67), some (.int x1), some (.int x2), some (.int x3), none]) rfl ?_
  intro P hP
  rw [f_X12_sign] at hf
  refine x_iload_n hP dX12_sign_0 rfl ?_
  refine x_bipush hP dX12_sign_1 (v := 59) rfl ?_
  obtain ⟨t1, het1, hf⟩ := b_lt hf
  have hj1 : P 43 [some (.ref 67), some (.int x1), some (.int x2), none, none] [.int t1] LAY M := by
    refine x_istore hP (ls2 := [some (.ref 67), some (.int x1), some (.int x2), none, some (.int t1)]) dX12_sign_43 rfl rfl ?_
    refine x_iload_n hP dX12_sign_45 rfl ?_
    refine x_bipush hP dX12_sign_46 (v := 43) rfl ?_
    obtain ⟨t6, het6, hf⟩ := b_lt hf
    have hj6 : P 55 [some (.ref 67), some (.int x1), some (.int x2), none, some (.int t6)] [] LAY M := by
      refine x_iload_n hP dX12_sign_55 rfl ?_
      refine x_bipush hP dX12_sign_56 (v := 45) rfl ?_
      obtain ⟨t8, het8, hf⟩ := b_lt hf
      have hj8 : P 65 [some (.ref 67), some (.int x1), some (.int x2), none, some (.int t8)] [] LAY M := by
        refine x_iload_n hP dX12_sign_65 rfl ?_
        refine x_bipush hP dX12_sign_66 (v := 42) rfl ?_
        obtain ⟨t10, het10, hf⟩ := b_lt hf
        have hj10 : P 75 [some (.ref 67), some (.int x1), some (.int x2), none, some (.int t10)] [] LAY M := by
          refine x_iload_n hP dX12_sign_75 rfl ?_
          refine x_bipush hP dX12_sign_76 (v := 47) rfl ?_
          obtain ⟨t12, het12, hf⟩ := b_lt hf
          have hj12 : P 85 [some (.ref 67), some (.int x1), some (.int x2), none, some (.int t12)] [] LAY M := by
            refine x_iload_n hP dX12_sign_85 rfl ?_
            refine x_bipush hP dX12_sign_86 (v := 60) rfl ?_
            obtain ⟨t14, het14, hf⟩ := b_lt hf
            have hj14 : P 95 [some (.ref 67), some (.int x1), none, none, some (.int t14)] [] LAY M := by
              refine x_aload_n hP dX12_sign_95 rfl ?_
              refine x_iload hP dX12_sign_96 rfl ?_
              refine x_iload_n hP dX12_sign_98 rfl ?_
              refine x_iconst hP dX12_sign_99 (v := 0) rfl ?_
              refine x_lconst hP dX12_sign_100 (v := 0) rfl ?_
              obtain ⟨M17, hc16, hf⟩ := b_bd hf
              refine y_cvv hP oX12_token lX12_206 [.int t14, .int x1, .int (0 : Int32), .long (0 : Int64)] [] rfl rfl rfl lay67 dX12_sign_101 (t_X12_token (d := d - 1) (by omega) hc16) (by omega) ?_
              refine x_iconst hP dX12_sign_104 (v := 1) rfl ?_
              cases hf
              exact x_iret hP rfl dX12_sign_105
            clear hf
            have hf := het14
            clear het14
            refine x_icmp_ne hP dX12_sign_88 (tgt := 95) (by decide) (fun c15 => ?_) (fun c15 => ?_)
            · replace hf := e_f c15 hf
              refine x_drop hP [some (.ref 67), some (.int x1), none, none, some (.int t12)] (And.intro rfl (And.intro rfl (And.intro rfl trivial))) ?_
              subst hf
              exact hj14
            · replace hf := e_t c15 hf
              refine x_bipush hP dX12_sign_91 (v := 13) rfl ?_
              refine x_istore hP (ls2 := [some (.ref 67), some (.int x1), some (.int x2), none, some (.int (13 : Int32))]) dX12_sign_93 rfl rfl ?_
              refine x_drop hP [some (.ref 67), some (.int x1), none, none, some (.int (13 : Int32))] (And.intro rfl (And.intro rfl (And.intro rfl trivial))) ?_
              subst hf
              exact hj14
          clear hf
          have hf := het12
          clear het12
          refine x_icmp_ne hP dX12_sign_78 (tgt := 85) (by decide) (fun c13 => ?_) (fun c13 => ?_)
          · replace hf := e_f c13 hf
            refine x_drop hP [some (.ref 67), some (.int x1), some (.int x2), none, some (.int t10)] (And.intro rfl (And.intro rfl (And.intro rfl (And.intro rfl trivial)))) ?_
            subst hf
            exact hj12
          · replace hf := e_t c13 hf
            refine x_bipush hP dX12_sign_81 (v := 15) rfl ?_
            refine x_istore hP (ls2 := [some (.ref 67), some (.int x1), some (.int x2), none, some (.int (15 : Int32))]) dX12_sign_83 rfl rfl ?_
            refine x_drop hP [some (.ref 67), some (.int x1), some (.int x2), none, some (.int (15 : Int32))] (And.intro rfl (And.intro rfl (And.intro rfl (And.intro rfl trivial)))) ?_
            subst hf
            exact hj12
        clear hf
        have hf := het10
        clear het10
        refine x_icmp_ne hP dX12_sign_68 (tgt := 75) (by decide) (fun c11 => ?_) (fun c11 => ?_)
        · replace hf := e_f c11 hf
          refine x_drop hP [some (.ref 67), some (.int x1), some (.int x2), none, some (.int t8)] (And.intro rfl (And.intro rfl (And.intro rfl (And.intro rfl trivial)))) ?_
          subst hf
          exact hj10
        · replace hf := e_t c11 hf
          refine x_bipush hP dX12_sign_71 (v := 10) rfl ?_
          refine x_istore hP (ls2 := [some (.ref 67), some (.int x1), some (.int x2), none, some (.int (10 : Int32))]) dX12_sign_73 rfl rfl ?_
          refine x_drop hP [some (.ref 67), some (.int x1), some (.int x2), none, some (.int (10 : Int32))] (And.intro rfl (And.intro rfl (And.intro rfl (And.intro rfl trivial)))) ?_
          subst hf
          exact hj10
      clear hf
      have hf := het8
      clear het8
      refine x_icmp_ne hP dX12_sign_58 (tgt := 65) (by decide) (fun c9 => ?_) (fun c9 => ?_)
      · replace hf := e_f c9 hf
        refine x_drop hP [some (.ref 67), some (.int x1), some (.int x2), none, some (.int t6)] (And.intro rfl (And.intro rfl (And.intro rfl (And.intro rfl trivial)))) ?_
        subst hf
        exact hj8
      · replace hf := e_t c9 hf
        refine x_bipush hP dX12_sign_61 (v := 9) rfl ?_
        refine x_istore hP (ls2 := [some (.ref 67), some (.int x1), some (.int x2), none, some (.int (9 : Int32))]) dX12_sign_63 rfl rfl ?_
        refine x_drop hP [some (.ref 67), some (.int x1), some (.int x2), none, some (.int (9 : Int32))] (And.intro rfl (And.intro rfl (And.intro rfl (And.intro rfl trivial)))) ?_
        subst hf
        exact hj8
    clear hf
    have hf := het6
    clear het6
    refine x_icmp_ne hP dX12_sign_48 (tgt := 55) (by decide) (fun c7 => ?_) (fun c7 => ?_)
    · replace hf := e_f c7 hf
      refine x_drop hP [some (.ref 67), some (.int x1), some (.int x2), none, some (.int t1)] (And.intro rfl (And.intro rfl (And.intro rfl (And.intro rfl trivial)))) ?_
      subst hf
      exact hj6
    · replace hf := e_t c7 hf
      refine x_bipush hP dX12_sign_51 (v := 8) rfl ?_
      refine x_istore hP (ls2 := [some (.ref 67), some (.int x1), some (.int x2), none, some (.int (8 : Int32))]) dX12_sign_53 rfl rfl ?_
      refine x_drop hP [some (.ref 67), some (.int x1), some (.int x2), none, some (.int (8 : Int32))] (And.intro rfl (And.intro rfl (And.intro rfl (And.intro rfl trivial)))) ?_
      subst hf
      exact hj6
  clear hf
  have hf := het1
  clear het1
  refine x_icmp_ne hP dX12_sign_3 (tgt := 10) (by decide) (fun c2 => ?_) (fun c2 => ?_)
  · replace hf := e_f c2 hf
    refine x_iload_n hP dX12_sign_10 rfl ?_
    refine x_bipush hP dX12_sign_11 (v := 61) rfl ?_
    refine x_icmp_ne hP dX12_sign_13 (tgt := 20) (by decide) (fun c3 => ?_) (fun c3 => ?_)
    · replace hf := e_f c3 hf
      refine x_iload_n hP dX12_sign_20 rfl ?_
      refine x_bipush hP dX12_sign_21 (v := 40) rfl ?_
      refine x_icmp_ne hP dX12_sign_23 (tgt := 31) (by decide) (fun c4 => ?_) (fun c4 => ?_)
      · replace hf := e_f c4 hf
        refine x_iload_n hP dX12_sign_31 rfl ?_
        refine x_bipush hP dX12_sign_32 (v := 41) rfl ?_
        refine x_icmp_ne hP dX12_sign_34 (tgt := 42) (by decide) (fun c5 => ?_) (fun c5 => ?_)
        · replace hf := e_f c5 hf
          refine x_iconst hP dX12_sign_42 (v := 3) rfl ?_
          refine x_drop hP [some (.ref 67), some (.int x1), some (.int x2), none, none] (And.intro rfl (And.intro rfl (And.intro rfl trivial))) ?_
          subst hf
          exact hj1
        · replace hf := e_t c5 hf
          refine x_bipush hP dX12_sign_37 (v := 7) rfl ?_
          refine x_goto hP dX12_sign_39 (tgt := 43) (by decide) ?_
          refine x_drop hP [some (.ref 67), some (.int x1), some (.int x2), none, none] (And.intro rfl (And.intro rfl (And.intro rfl trivial))) ?_
          subst hf
          exact hj1
      · replace hf := e_t c4 hf
        refine x_bipush hP dX12_sign_26 (v := 6) rfl ?_
        refine x_goto hP dX12_sign_28 (tgt := 43) (by decide) ?_
        refine x_drop hP [some (.ref 67), some (.int x1), some (.int x2), none, none] (And.intro rfl (And.intro rfl (And.intro rfl trivial))) ?_
        subst hf
        exact hj1
    · replace hf := e_t c3 hf
      refine x_iconst hP dX12_sign_16 (v := 5) rfl ?_
      refine x_goto hP dX12_sign_17 (tgt := 43) (by decide) ?_
      refine x_drop hP [some (.ref 67), some (.int x1), some (.int x2), none, none] (And.intro rfl (And.intro rfl (And.intro rfl trivial))) ?_
      subst hf
      exact hj1
  · replace hf := e_t c2 hf
    refine x_iconst hP dX12_sign_6 (v := 4) rfl ?_
    refine x_goto hP dX12_sign_7 (tgt := 43) (by decide) ?_
    refine x_drop hP [some (.ref 67), some (.int x1), some (.int x2), none, none] (And.intro rfl (And.intro rfl (And.intro rfl trivial))) ?_
    subst hf
    exact hj1
def f_X12_cutsUp_L208 : Nat → Int32 → Int32 → Int32 → Mem → Option (Int32 × Int32)
  | 0, _, _, _, _ => none
  | fu + 1, l1, l3, l4, M =>
    (f_X12_byteAt (l1 + l3) M).bind fun v26 =>
    (f_X12_isDigit v26).bind fun v28 =>
    if v28 = 0 then
      some (l3, l4)
    else
      if (4 : Int32) ≤ l3 then
        lt (l3 + 1 : Int32) fun v31 =>
        f_X12_cutsUp_L208 fu l1 v31 l4 M
      else
        (f_X12_byteAt (l1 + l3) M).bind fun v33 =>
        lt ((((10 : Int32) * l4) + v33) - (48 : Int32) : Int32) fun v34 =>
        lt (l3 + 1 : Int32) fun v35 =>
        f_X12_cutsUp_L208 fu l1 v35 v34 M
def f_X12_cutsUp_L85 : Nat → Int32 → Int32 → Int64 → Mem → Option (Int32 × Int64)
  | 0, _, _, _, _ => none
  | fu + 1, l1, l3, l4, M =>
    (f_X12_byteAt (l1 + l3) M).bind fun v44 =>
    (f_X12_isLetter v44).bind fun v46 =>
    if v46 = 0 then
      some (l3, l4)
    else
      if (8 : Int32) ≤ l3 then
        lt (l3 + 1 : Int32) fun v49 =>
        f_X12_cutsUp_L85 fu l1 v49 l4 M
      else
        (f_X12_byteAt (l1 + l3) M).bind fun v51 =>
        (f_X12_appends l4 v51).bind fun v53 =>
        lt (l3 + 1 : Int32) fun v54 =>
        f_X12_cutsUp_L85 fu l1 v54 v53 M
def f_X12_cutsUp_L146 : Nat → Int32 → Int32 → Int64 → Int32 → Int32 → Mem → Option (Int32)
  | 0, _, _, _, _, _, _ => none
  | fu + 1, l1, l3, l4, l6, l7, M =>
    if (23 : Int32) ≤ l7 then
      some l6
    else
      (aj M 74 23 l7).bind fun v62 =>
      if lg_cmp v62 l4 = 0 then
        lt ((20 : Int32) + l7 : Int32) fun v64 =>
        lt (l7 + 1 : Int32) fun v65 =>
        f_X12_cutsUp_L146 fu l1 l3 l4 v64 v65 M
      else
        lt (l7 + 1 : Int32) fun v66 =>
        f_X12_cutsUp_L146 fu l1 l3 l4 l6 v66 M
def f_X12_cutsUp_L7 (k : Mem → Option (Mem)) : Nat → Int32 → Mem → Option (Mem)
  | 0, _, _ => none
  | fu + 1, l1, M =>
    if (400 : Int32) < M.1 67 10 then
      k M
    else
      (f_X12_byteAt l1 M).bind fun v4 =>
      if l1 < M.1 67 4 then
        if v4 = (9 : Int32) then
          lt (l1 + 1 : Int32) fun v7 =>
          f_X12_cutsUp_L7 k fu v7 M
        else
          if v4 = (10 : Int32) then
            lt (l1 + 1 : Int32) fun v9 =>
            f_X12_cutsUp_L7 k fu v9 M
          else
            if v4 = (13 : Int32) then
              lt (l1 + 1 : Int32) fun v11 =>
              f_X12_cutsUp_L7 k fu v11 M
            else
              if v4 = (32 : Int32) then
                lt (l1 + 1 : Int32) fun v13 =>
                f_X12_cutsUp_L7 k fu v13 M
              else
                (f_X12_isLetter v4).bind fun v15 =>
                if v15 = 0 then
                  (f_X12_isDigit v4).bind fun v18 =>
                  if v18 = 0 then
                    (f_X12_byteAt (l1 + (1 : Int32)) M).bind fun v21 =>
                    (f_X12_sign l1 v4 v21 M).bind fun t23 =>
                    lt (l1 + t23.1 : Int32) fun v24 =>
                    f_X12_cutsUp_L7 k fu v24 t23.2
                  else
                    (f_X12_cutsUp_L208 FU l1 (0 : Int32) (0 : Int32) M).bind fun t36 =>
                    lt (
                      if t36.1 ≤ (4 : Int32) then
                        (2 : Int32)
                      else
                        (3 : Int32)
                     : Int32) fun t38 =>
                    (f_X12_token t38 l1 t36.2 (0 : Int64) M).bind fun M41 =>
                    lt (l1 + t36.1 : Int32) fun v42 =>
                    f_X12_cutsUp_L7 k fu v42 M41
                else
                  (f_X12_cutsUp_L85 FU l1 (0 : Int32) (0 : Int64) M).bind fun t55 =>
                  lt (
                    if t55.1 ≤ (8 : Int32) then
                      (1 : Int32)
                    else
                      (3 : Int32)
                   : Int32) fun t57 =>
                  (
                    if (8 : Int32) < t55.1 then
                      some t57
                    else
                      (f_X12_cutsUp_L146 FU l1 t55.1 t55.2 t57 (0 : Int32) M).bind fun t67 =>
                      some t67
                  ).bind fun t59 =>
                  (f_X12_token t59 l1 (0 : Int32) t55.2 M).bind fun M70 =>
                  lt (l1 + t55.1 : Int32) fun v71 =>
                  f_X12_cutsUp_L7 k fu v71 M70
      else
        (f_X12_token (0 : Int32) (M.1 67 4) (0 : Int32) (0 : Int64) M).bind fun M73 =>
        some M73
def f_X12_cutsUp (M : Mem) : Option (Mem) :=
  lt (sI M 67 10 (0 : Int32)) fun M1 =>
  f_X12_cutsUp_L7 (fun t74 =>
      some t74
    ) FU (0 : Int32) M1
set_option maxHeartbeats 1000000 in
set_option maxRecDepth 20000 in
theorem t_X12_cutsUp_L208 {g : GG} {d : Nat} {P : PT} {res : Option RS} (hd : 3 ≤ d)  (hP : IsM g iX12_cutsUp d res P) : ∀ (fu : Nat) (l1 : Int32) (l3 : Int32) (l4 : Int32) (M : Mem) (t : Int32 × Int32), f_X12_cutsUp_L208 fu l1 l3 l4 M = some t → P 250 [some (.ref 67), some (.int l1), none, some (.int t.1), some (.int t.2), none, none, none] [] LAY M → P 208 [some (.ref 67), some (.int l1), none, some (.int l3), some (.int l4), none, none, none] [] LAY M := by
  have hd1 : 1 ≤ d := by omega
  intro fu
  induction fu with
  | zero => intro l1 l3 l4 M t hf; simp [f_X12_cutsUp_L208] at hf
  | succ fu ih =>
    intro l1 l3 l4 M t hf hx
    rw [f_X12_cutsUp_L208] at hf
    refine x_aload_n hP dX12_cutsUp_208 rfl ?_
    refine x_iload_n hP dX12_cutsUp_209 rfl ?_
    refine x_iload_n hP dX12_cutsUp_210 rfl ?_
    refine x_iadd hP dX12_cutsUp_211 ?_
    obtain ⟨v26, hc25, hf⟩ := b_bd hf
    refine y_cvi hP oX12_byteAt lX12_202 [.int (l1 + l3)] [] rfl rfl rfl lay67 dX12_cutsUp_212 (t_X12_byteAt (d := d - 1) (by omega) hc25) (by omega) ?_
    obtain ⟨v28, hc27, hf⟩ := b_bd hf
    refine y_csi hP oX12_isDigit lX12_214 [.int v26] [] rfl rfl rfl dX12_cutsUp_215 (t_X12_isDigit (d := d - 1) (by omega) hc27) (by omega) ?_
    refine x_if_eq hP dX12_cutsUp_218 (tgt := 250) (by decide) (fun c29 => ?_) (fun c29 => ?_)
    · replace hf := p_t c29 hf
      refine x_drop hP [some (.ref 67), some (.int l1), none, some (.int l3), some (.int l4), none, none, none] (And.intro rfl (And.intro rfl (And.intro rfl (And.intro rfl trivial)))) ?_
      cases hf
      exact hx
    · replace hf := p_f c29 hf
      refine x_iload_n hP dX12_cutsUp_221 rfl ?_
      refine x_iconst hP dX12_cutsUp_222 (v := 4) rfl ?_
      refine x_icmp_ge hP dX12_cutsUp_223 (tgt := 244) (by decide) (fun c30 => ?_) (fun c30 => ?_)
      · replace hf := p_t c30 hf
        obtain ⟨v31, hv31, hf⟩ := b_lt hf
        refine x_iinc hP (v := v31) (ls2 := [some (.ref 67), some (.int l1), none, some (.int v31), some (.int l4), none, none, none]) dX12_cutsUp_244 rfl (by rw [hv31]; rfl) rfl rfl ?_
        refine x_goto hP dX12_cutsUp_247 (tgt := 208) (by decide) ?_
        refine x_drop hP [some (.ref 67), some (.int l1), none, some (.int v31), some (.int l4), none, none, none] (And.intro rfl (And.intro rfl (And.intro rfl (And.intro rfl trivial)))) ?_
        exact ih _ _ _ _ _ hf hx
      · replace hf := p_f c30 hf
        refine x_bipush hP dX12_cutsUp_226 (v := 10) rfl ?_
        refine x_iload hP dX12_cutsUp_228 rfl ?_
        refine x_imul hP dX12_cutsUp_230 ?_
        refine x_aload_n hP dX12_cutsUp_231 rfl ?_
        refine x_iload_n hP dX12_cutsUp_232 rfl ?_
        refine x_iload_n hP dX12_cutsUp_233 rfl ?_
        refine x_iadd hP dX12_cutsUp_234 ?_
        obtain ⟨v33, hc32, hf⟩ := b_bd hf
        refine y_cvi hP oX12_byteAt lX12_202 [.int (l1 + l3)] [.int ((10 : Int32) * l4)] rfl rfl rfl lay67 dX12_cutsUp_235 (t_X12_byteAt (d := d - 1) (by omega) hc32) (by omega) ?_
        refine x_iadd hP dX12_cutsUp_238 ?_
        refine x_bipush hP dX12_cutsUp_239 (v := 48) rfl ?_
        refine x_isub hP dX12_cutsUp_241 ?_
        obtain ⟨v34, hv34, hf⟩ := b_lt hf
        refine y_nmI hv34 ?_
        refine x_istore hP (ls2 := [some (.ref 67), some (.int l1), none, some (.int l3), some (.int v34), none, none, none]) dX12_cutsUp_242 rfl rfl ?_
        obtain ⟨v35, hv35, hf⟩ := b_lt hf
        refine x_iinc hP (v := v35) (ls2 := [some (.ref 67), some (.int l1), none, some (.int v35), some (.int v34), none, none, none]) dX12_cutsUp_244 rfl (by rw [hv35]; rfl) rfl rfl ?_
        refine x_goto hP dX12_cutsUp_247 (tgt := 208) (by decide) ?_
        refine x_drop hP [some (.ref 67), some (.int l1), none, some (.int v35), some (.int v34), none, none, none] (And.intro rfl (And.intro rfl (And.intro rfl (And.intro rfl trivial)))) ?_
        exact ih _ _ _ _ _ hf hx
set_option maxHeartbeats 1000000 in
set_option maxRecDepth 20000 in
theorem t_X12_cutsUp_L85 {g : GG} {d : Nat} {P : PT} {res : Option RS} (hd : 3 ≤ d)  (hP : IsM g iX12_cutsUp d res P) : ∀ (fu : Nat) (l1 : Int32) (l3 : Int32) (l4 : Int64) (M : Mem) (t : Int32 × Int64), f_X12_cutsUp_L85 fu l1 l3 l4 M = some t → P 124 [some (.ref 67), some (.int l1), none, some (.int t.1), some (.long t.2), none, none, none] [] LAY M → P 85 [some (.ref 67), some (.int l1), none, some (.int l3), some (.long l4), none, none, none] [] LAY M := by
  have hd1 : 1 ≤ d := by omega
  intro fu
  induction fu with
  | zero => intro l1 l3 l4 M t hf; simp [f_X12_cutsUp_L85] at hf
  | succ fu ih =>
    intro l1 l3 l4 M t hf hx
    rw [f_X12_cutsUp_L85] at hf
    refine x_aload_n hP dX12_cutsUp_85 rfl ?_
    refine x_iload_n hP dX12_cutsUp_86 rfl ?_
    refine x_iload_n hP dX12_cutsUp_87 rfl ?_
    refine x_iadd hP dX12_cutsUp_88 ?_
    obtain ⟨v44, hc43, hf⟩ := b_bd hf
    refine y_cvi hP oX12_byteAt lX12_202 [.int (l1 + l3)] [] rfl rfl rfl lay67 dX12_cutsUp_89 (t_X12_byteAt (d := d - 1) (by omega) hc43) (by omega) ?_
    obtain ⟨v46, hc45, hf⟩ := b_bd hf
    refine y_csi hP oX12_isLetter lX12_210 [.int v44] [] rfl rfl rfl dX12_cutsUp_92 (t_X12_isLetter (d := d - 1) (by omega) hc45) (by omega) ?_
    refine x_if_eq hP dX12_cutsUp_95 (tgt := 124) (by decide) (fun c47 => ?_) (fun c47 => ?_)
    · replace hf := p_t c47 hf
      refine x_drop hP [some (.ref 67), some (.int l1), none, some (.int l3), some (.long l4), none, none, none] (And.intro rfl (And.intro rfl (And.intro rfl (And.intro rfl trivial)))) ?_
      cases hf
      exact hx
    · replace hf := p_f c47 hf
      refine x_iload_n hP dX12_cutsUp_98 rfl ?_
      refine x_bipush hP dX12_cutsUp_99 (v := 8) rfl ?_
      refine x_icmp_ge hP dX12_cutsUp_101 (tgt := 118) (by decide) (fun c48 => ?_) (fun c48 => ?_)
      · replace hf := p_t c48 hf
        obtain ⟨v49, hv49, hf⟩ := b_lt hf
        refine x_iinc hP (v := v49) (ls2 := [some (.ref 67), some (.int l1), none, some (.int v49), some (.long l4), none, none, none]) dX12_cutsUp_118 rfl (by rw [hv49]; rfl) rfl rfl ?_
        refine x_goto hP dX12_cutsUp_121 (tgt := 85) (by decide) ?_
        refine x_drop hP [some (.ref 67), some (.int l1), none, some (.int v49), some (.long l4), none, none, none] (And.intro rfl (And.intro rfl (And.intro rfl (And.intro rfl trivial)))) ?_
        exact ih _ _ _ _ _ hf hx
      · replace hf := p_f c48 hf
        refine x_lload hP dX12_cutsUp_104 rfl ?_
        refine x_aload_n hP dX12_cutsUp_106 rfl ?_
        refine x_iload_n hP dX12_cutsUp_107 rfl ?_
        refine x_iload_n hP dX12_cutsUp_108 rfl ?_
        refine x_iadd hP dX12_cutsUp_109 ?_
        obtain ⟨v51, hc50, hf⟩ := b_bd hf
        refine y_cvi hP oX12_byteAt lX12_202 [.int (l1 + l3)] [.long l4] rfl rfl rfl lay67 dX12_cutsUp_110 (t_X12_byteAt (d := d - 1) (by omega) hc50) (by omega) ?_
        obtain ⟨v53, hc52, hf⟩ := b_bd hf
        refine y_csl hP oX12_appends lX12_195 [.long l4, .int v51] [] rfl rfl rfl dX12_cutsUp_113 (t_X12_appends (d := d - 1) (by omega) hc52) (by omega) ?_
        refine x_lstore hP (ls2 := [some (.ref 67), some (.int l1), none, some (.int l3), some (.long v53), none, none, none]) dX12_cutsUp_116 rfl rfl ?_
        obtain ⟨v54, hv54, hf⟩ := b_lt hf
        refine x_iinc hP (v := v54) (ls2 := [some (.ref 67), some (.int l1), none, some (.int v54), some (.long v53), none, none, none]) dX12_cutsUp_118 rfl (by rw [hv54]; rfl) rfl rfl ?_
        refine x_goto hP dX12_cutsUp_121 (tgt := 85) (by decide) ?_
        refine x_drop hP [some (.ref 67), some (.int l1), none, some (.int v54), some (.long v53), none, none, none] (And.intro rfl (And.intro rfl (And.intro rfl (And.intro rfl trivial)))) ?_
        exact ih _ _ _ _ _ hf hx
set_option maxHeartbeats 1000000 in
set_option maxRecDepth 20000 in
theorem t_X12_cutsUp_L146 {g : GG} {d : Nat} {P : PT} {res : Option RS} (hd : 3 ≤ d)  (hP : IsM g iX12_cutsUp d res P) : ∀ (fu : Nat) (l1 : Int32) (l3 : Int32) (l4 : Int64) (l6 : Int32) (l7 : Int32) (M : Mem) (t : Int32), f_X12_cutsUp_L146 fu l1 l3 l4 l6 l7 M = some t → P 179 [some (.ref 67), some (.int l1), none, some (.int l3), some (.long l4), none, some (.int t), none] [] LAY M → P 146 [some (.ref 67), some (.int l1), none, some (.int l3), some (.long l4), none, some (.int l6), some (.int l7)] [] LAY M := by
  have hd1 : 1 ≤ d := by omega
  intro fu
  induction fu with
  | zero => intro l1 l3 l4 l6 l7 M t hf; simp [f_X12_cutsUp_L146] at hf
  | succ fu ih =>
    intro l1 l3 l4 l6 l7 M t hf hx
    rw [f_X12_cutsUp_L146] at hf
    refine x_iload hP dX12_cutsUp_146 rfl ?_
    refine x_bipush hP dX12_cutsUp_148 (v := 23) rfl ?_
    refine x_icmp_ge hP dX12_cutsUp_150 (tgt := 179) (by decide) (fun c61 => ?_) (fun c61 => ?_)
    · replace hf := p_t c61 hf
      refine x_drop hP [some (.ref 67), some (.int l1), none, some (.int l3), some (.long l4), none, some (.int l6), none] (And.intro rfl (And.intro rfl (And.intro rfl (And.intro rfl (And.intro rfl trivial))))) ?_
      cases hf
      exact hx
    · replace hf := p_f c61 hf
      refine x_aload_n hP dX12_cutsUp_153 rfl ?_
      refine x_getA hP fX12_34 lay67 (r := 74) rfl dX12_cutsUp_154 ?_
      refine x_iload hP dX12_cutsUp_157 rfl ?_
      obtain ⟨v62, hiv62, hv62, hf⟩ := b_aj hf
      refine y_lld hP lay74 hiv62 hv62 dX12_cutsUp_159 ?_
      refine x_lload hP dX12_cutsUp_160 rfl ?_
      refine x_lcmp hP dX12_cutsUp_162 ?_
      refine x_if_ne hP dX12_cutsUp_163 (tgt := 173) (by decide) (fun c63 => ?_) (fun c63 => ?_)
      · replace hf := p_f c63 hf
        obtain ⟨v66, hv66, hf⟩ := b_lt hf
        refine x_iinc hP (v := v66) (ls2 := [some (.ref 67), some (.int l1), none, some (.int l3), some (.long l4), none, some (.int l6), some (.int v66)]) dX12_cutsUp_173 rfl (by rw [hv66]; rfl) rfl rfl ?_
        refine x_goto hP dX12_cutsUp_176 (tgt := 146) (by decide) ?_
        refine x_drop hP [some (.ref 67), some (.int l1), none, some (.int l3), some (.long l4), none, some (.int l6), some (.int v66)] (And.intro rfl (And.intro rfl (And.intro rfl (And.intro rfl (And.intro rfl (And.intro rfl trivial)))))) ?_
        exact ih _ _ _ _ _ _ _ hf hx
      · replace hf := p_t c63 hf
        refine x_bipush hP dX12_cutsUp_166 (v := 20) rfl ?_
        refine x_iload hP dX12_cutsUp_168 rfl ?_
        refine x_iadd hP dX12_cutsUp_170 ?_
        obtain ⟨v64, hv64, hf⟩ := b_lt hf
        refine y_nmI hv64 ?_
        refine x_istore hP (ls2 := [some (.ref 67), some (.int l1), none, some (.int l3), some (.long l4), none, some (.int v64), some (.int l7)]) dX12_cutsUp_171 rfl rfl ?_
        obtain ⟨v65, hv65, hf⟩ := b_lt hf
        refine x_iinc hP (v := v65) (ls2 := [some (.ref 67), some (.int l1), none, some (.int l3), some (.long l4), none, some (.int v64), some (.int v65)]) dX12_cutsUp_173 rfl (by rw [hv65]; rfl) rfl rfl ?_
        refine x_goto hP dX12_cutsUp_176 (tgt := 146) (by decide) ?_
        refine x_drop hP [some (.ref 67), some (.int l1), none, some (.int l3), some (.long l4), none, some (.int v64), some (.int v65)] (And.intro rfl (And.intro rfl (And.intro rfl (And.intro rfl (And.intro rfl (And.intro rfl trivial)))))) ?_
        exact ih _ _ _ _ _ _ _ hf hx
set_option maxHeartbeats 1000000 in
set_option maxRecDepth 20000 in
theorem t_X12_cutsUp_L7 {g : GG} {d : Nat} {P : PT} {M' : Mem} (hd : 3 ≤ d)   (hP : IsM g iX12_cutsUp d (some (none, LAY, M')) P) {k : Mem → Option (Mem)} (hk : ∀ t : Mem, k t = some M' → P 294 [none, none, none, none, none, none, none, none] [] LAY t) : ∀ (fu : Nat) (l1 : Int32) (M : Mem), f_X12_cutsUp_L7 k fu l1 M = some M' → P 7 [some (.ref 67), some (.int l1), none, none, none, none, none, none] [] LAY M := by
  have hd1 : 1 ≤ d := by omega
  intro fu
  induction fu with
  | zero => intro l1 M hf; simp [f_X12_cutsUp_L7] at hf
  | succ fu ih =>
    intro l1 M hf
    rw [f_X12_cutsUp_L7] at hf
    refine x_aload_n hP dX12_cutsUp_7 rfl ?_
    refine x_getI hP fX12_199 lay67 dX12_cutsUp_8 ?_
    refine x_sipush hP dX12_cutsUp_11 (v := 400) rfl ?_
    refine x_icmp_gt hP dX12_cutsUp_14 (tgt := 294) (by decide) (fun c2 => ?_) (fun c2 => ?_)
    · replace hf := p_t c2 hf
      refine x_drop hP [none, none, none, none, none, none, none, none] trivial ?_
      exact hk _ hf
    · replace hf := p_f c2 hf
      refine x_aload_n hP dX12_cutsUp_17 rfl ?_
      refine x_iload_n hP dX12_cutsUp_18 rfl ?_
      obtain ⟨v4, hc3, hf⟩ := b_bd hf
      refine y_cvi hP oX12_byteAt lX12_202 [.int l1] [] rfl rfl rfl lay67 dX12_cutsUp_19 (t_X12_byteAt (d := d - 1) (by omega) hc3) (by omega) ?_
      refine x_istore_n hP (ls2 := [some (.ref 67), some (.int l1), some (.int v4), none, none, none, none, none]) dX12_cutsUp_22 rfl rfl rfl ?_
      refine x_iload_n hP dX12_cutsUp_23 rfl ?_
      refine x_aload_n hP dX12_cutsUp_24 rfl ?_
      refine x_getI hP fX12_190 lay67 dX12_cutsUp_25 ?_
      refine x_icmp_lt hP dX12_cutsUp_28 (tgt := 43) (by decide) (fun c5 => ?_) (fun c5 => ?_)
      · replace hf := p_t c5 hf
        refine x_iload_n hP dX12_cutsUp_43 rfl ?_
        refine x_bipush hP dX12_cutsUp_44 (v := 9) rfl ?_
        refine x_icmp_eq hP dX12_cutsUp_46 (tgt := 67) (by decide) (fun c6 => ?_) (fun c6 => ?_)
        · replace hf := p_t c6 hf
          obtain ⟨v7, hv7, hf⟩ := b_lt hf
          refine x_iinc hP (v := v7) (ls2 := [some (.ref 67), some (.int v7), some (.int v4), none, none, none, none, none]) dX12_cutsUp_67 rfl (by rw [hv7]; rfl) rfl rfl ?_
          refine x_goto hP dX12_cutsUp_70 (tgt := 291) (by decide) ?_
          refine x_goto hP dX12_cutsUp_291 (tgt := 7) (by decide) ?_
          refine x_drop hP [some (.ref 67), some (.int v7), none, none, none, none, none, none] (And.intro rfl (And.intro rfl trivial)) ?_
          exact ih _ _ hf
        · replace hf := p_f c6 hf
          refine x_iload_n hP dX12_cutsUp_49 rfl ?_
          refine x_bipush hP dX12_cutsUp_50 (v := 10) rfl ?_
          refine x_icmp_eq hP dX12_cutsUp_52 (tgt := 67) (by decide) (fun c8 => ?_) (fun c8 => ?_)
          · replace hf := p_t c8 hf
            obtain ⟨v9, hv9, hf⟩ := b_lt hf
            refine x_iinc hP (v := v9) (ls2 := [some (.ref 67), some (.int v9), some (.int v4), none, none, none, none, none]) dX12_cutsUp_67 rfl (by rw [hv9]; rfl) rfl rfl ?_
            refine x_goto hP dX12_cutsUp_70 (tgt := 291) (by decide) ?_
            refine x_goto hP dX12_cutsUp_291 (tgt := 7) (by decide) ?_
            refine x_drop hP [some (.ref 67), some (.int v9), none, none, none, none, none, none] (And.intro rfl (And.intro rfl trivial)) ?_
            exact ih _ _ hf
          · replace hf := p_f c8 hf
            refine x_iload_n hP dX12_cutsUp_55 rfl ?_
            refine x_bipush hP dX12_cutsUp_56 (v := 13) rfl ?_
            refine x_icmp_eq hP dX12_cutsUp_58 (tgt := 67) (by decide) (fun c10 => ?_) (fun c10 => ?_)
            · replace hf := p_t c10 hf
              obtain ⟨v11, hv11, hf⟩ := b_lt hf
              refine x_iinc hP (v := v11) (ls2 := [some (.ref 67), some (.int v11), some (.int v4), none, none, none, none, none]) dX12_cutsUp_67 rfl (by rw [hv11]; rfl) rfl rfl ?_
              refine x_goto hP dX12_cutsUp_70 (tgt := 291) (by decide) ?_
              refine x_goto hP dX12_cutsUp_291 (tgt := 7) (by decide) ?_
              refine x_drop hP [some (.ref 67), some (.int v11), none, none, none, none, none, none] (And.intro rfl (And.intro rfl trivial)) ?_
              exact ih _ _ hf
            · replace hf := p_f c10 hf
              refine x_iload_n hP dX12_cutsUp_61 rfl ?_
              refine x_bipush hP dX12_cutsUp_62 (v := 32) rfl ?_
              refine x_icmp_ne hP dX12_cutsUp_64 (tgt := 73) (by decide) (fun c12 => ?_) (fun c12 => ?_)
              · replace hf := p_f c12 hf
                refine x_iload_n hP dX12_cutsUp_73 rfl ?_
                obtain ⟨v15, hc14, hf⟩ := b_bd hf
                refine y_csi hP oX12_isLetter lX12_210 [.int v4] [] rfl rfl rfl dX12_cutsUp_74 (t_X12_isLetter (d := d - 1) (by omega) hc14) (by omega) ?_
                refine x_if_eq hP dX12_cutsUp_77 (tgt := 196) (by decide) (fun c16 => ?_) (fun c16 => ?_)
                · replace hf := p_t c16 hf
                  refine x_iload_n hP dX12_cutsUp_196 rfl ?_
                  obtain ⟨v18, hc17, hf⟩ := b_bd hf
                  refine y_csi hP oX12_isDigit lX12_214 [.int v4] [] rfl rfl rfl dX12_cutsUp_197 (t_X12_isDigit (d := d - 1) (by omega) hc17) (by omega) ?_
                  refine x_if_eq hP dX12_cutsUp_200 (tgt := 275) (by decide) (fun c19 => ?_) (fun c19 => ?_)
                  · replace hf := p_t c19 hf
                    refine x_iload_n hP dX12_cutsUp_275 rfl ?_
                    refine x_aload_n hP dX12_cutsUp_276 rfl ?_
                    refine x_iload_n hP dX12_cutsUp_277 rfl ?_
                    refine x_iload_n hP dX12_cutsUp_278 rfl ?_
                    refine x_aload_n hP dX12_cutsUp_279 rfl ?_
                    refine x_iload_n hP dX12_cutsUp_280 rfl ?_
                    refine x_iconst hP dX12_cutsUp_281 (v := 1) rfl ?_
                    refine x_iadd hP dX12_cutsUp_282 ?_
                    obtain ⟨v21, hc20, hf⟩ := b_bd hf
                    refine y_cvi hP oX12_byteAt lX12_202 [.int (l1 + (1 : Int32))] [.int v4, .int l1, .ref 67, .int l1] rfl rfl rfl lay67 dX12_cutsUp_283 (t_X12_byteAt (d := d - 1) (by omega) hc20) (by omega) ?_
                    obtain ⟨t23, hc22, hf⟩ := b_bd hf
                    refine y_cvi hP oX12_sign lX12_217 [.int l1, .int v4, .int v21] [.int l1] rfl rfl rfl lay67 dX12_cutsUp_286 (t_X12_sign (d := d - 1) (by omega) hc22) (by omega) ?_
                    refine x_iadd hP dX12_cutsUp_289 ?_
                    obtain ⟨v24, hv24, hf⟩ := b_lt hf
                    refine y_nmI hv24 ?_
                    refine x_istore_n hP (ls2 := [some (.ref 67), some (.int v24), some (.int v4), none, none, none, none, none]) dX12_cutsUp_290 rfl rfl rfl ?_
                    refine x_goto hP dX12_cutsUp_291 (tgt := 7) (by decide) ?_
                    refine x_drop hP [some (.ref 67), some (.int v24), none, none, none, none, none, none] (And.intro rfl (And.intro rfl trivial)) ?_
                    exact ih _ _ hf
                  · replace hf := p_f c19 hf
                    refine x_iconst hP dX12_cutsUp_203 (v := 0) rfl ?_
                    refine x_istore_n hP (ls2 := [some (.ref 67), some (.int l1), some (.int v4), some (.int (0 : Int32)), none, none, none, none]) dX12_cutsUp_204 rfl rfl rfl ?_
                    refine x_iconst hP dX12_cutsUp_205 (v := 0) rfl ?_
                    refine x_istore hP (ls2 := [some (.ref 67), some (.int l1), some (.int v4), some (.int (0 : Int32)), some (.int (0 : Int32)), none, none, none]) dX12_cutsUp_206 rfl rfl ?_
                    refine x_drop hP [some (.ref 67), some (.int l1), none, some (.int (0 : Int32)), some (.int (0 : Int32)), none, none, none] (And.intro rfl (And.intro rfl (And.intro rfl (And.intro rfl trivial)))) ?_
                    obtain ⟨t36, hl37, hf⟩ := b_bd hf
                    refine t_X12_cutsUp_L208 hd hP _ _ _ _ _ _ hl37 ?_
                    refine x_aload_n hP dX12_cutsUp_250 rfl ?_
                    refine x_iload_n hP dX12_cutsUp_251 rfl ?_
                    refine x_iconst hP dX12_cutsUp_252 (v := 4) rfl ?_
                    obtain ⟨t38, het38, hf⟩ := b_lt hf
                    have hj38 : P 261 [some (.ref 67), some (.int l1), none, some (.int t36.1), some (.int t36.2), none, none, none] [.int t38, .ref 67] LAY M := by
                      refine x_iload_n hP dX12_cutsUp_261 rfl ?_
                      refine x_iload hP dX12_cutsUp_262 rfl ?_
                      refine x_lconst hP dX12_cutsUp_264 (v := 0) rfl ?_
                      obtain ⟨M41, hc40, hf⟩ := b_bd hf
                      refine y_cvv hP oX12_token lX12_206 [.int t38, .int l1, .int t36.2, .long (0 : Int64)] [] rfl rfl rfl lay67 dX12_cutsUp_265 (t_X12_token (d := d - 1) (by omega) hc40) (by omega) ?_
                      refine x_iload_n hP dX12_cutsUp_268 rfl ?_
                      refine x_iload_n hP dX12_cutsUp_269 rfl ?_
                      refine x_iadd hP dX12_cutsUp_270 ?_
                      obtain ⟨v42, hv42, hf⟩ := b_lt hf
                      refine y_nmI hv42 ?_
                      refine x_istore_n hP (ls2 := [some (.ref 67), some (.int v42), none, some (.int t36.1), some (.int t36.2), none, none, none]) dX12_cutsUp_271 rfl rfl rfl ?_
                      refine x_goto hP dX12_cutsUp_272 (tgt := 291) (by decide) ?_
                      refine x_goto hP dX12_cutsUp_291 (tgt := 7) (by decide) ?_
                      refine x_drop hP [some (.ref 67), some (.int v42), none, none, none, none, none, none] (And.intro rfl (And.intro rfl trivial)) ?_
                      exact ih _ _ hf
                    clear hf
                    have hf := het38
                    clear het38
                    refine x_icmp_le hP dX12_cutsUp_253 (tgt := 260) (by decide) (fun c39 => ?_) (fun c39 => ?_)
                    · replace hf := e_t c39 hf
                      refine x_iconst hP dX12_cutsUp_260 (v := 2) rfl ?_
                      refine x_drop hP [some (.ref 67), some (.int l1), none, some (.int t36.1), some (.int t36.2), none, none, none] (And.intro rfl (And.intro rfl (And.intro rfl (And.intro rfl trivial)))) ?_
                      subst hf
                      exact hj38
                    · replace hf := e_f c39 hf
                      refine x_iconst hP dX12_cutsUp_256 (v := 3) rfl ?_
                      refine x_goto hP dX12_cutsUp_257 (tgt := 261) (by decide) ?_
                      refine x_drop hP [some (.ref 67), some (.int l1), none, some (.int t36.1), some (.int t36.2), none, none, none] (And.intro rfl (And.intro rfl (And.intro rfl (And.intro rfl trivial)))) ?_
                      subst hf
                      exact hj38
                · replace hf := p_f c16 hf
                  refine x_iconst hP dX12_cutsUp_80 (v := 0) rfl ?_
                  refine x_istore_n hP (ls2 := [some (.ref 67), some (.int l1), some (.int v4), some (.int (0 : Int32)), none, none, none, none]) dX12_cutsUp_81 rfl rfl rfl ?_
                  refine x_lconst hP dX12_cutsUp_82 (v := 0) rfl ?_
                  refine x_lstore hP (ls2 := [some (.ref 67), some (.int l1), some (.int v4), some (.int (0 : Int32)), some (.long (0 : Int64)), none, none, none]) dX12_cutsUp_83 rfl rfl ?_
                  refine x_drop hP [some (.ref 67), some (.int l1), none, some (.int (0 : Int32)), some (.long (0 : Int64)), none, none, none] (And.intro rfl (And.intro rfl (And.intro rfl (And.intro rfl trivial)))) ?_
                  obtain ⟨t55, hl56, hf⟩ := b_bd hf
                  refine t_X12_cutsUp_L85 hd hP _ _ _ _ _ _ hl56 ?_
                  refine x_iload_n hP dX12_cutsUp_124 rfl ?_
                  refine x_bipush hP dX12_cutsUp_125 (v := 8) rfl ?_
                  obtain ⟨t57, het57, hf⟩ := b_lt hf
                  have hj57 : P 135 [some (.ref 67), some (.int l1), none, some (.int t55.1), some (.long t55.2), none, none, none] [.int t57] LAY M := by
                    refine x_istore hP (ls2 := [some (.ref 67), some (.int l1), none, some (.int t55.1), some (.long t55.2), none, some (.int t57), none]) dX12_cutsUp_135 rfl rfl ?_
                    refine x_iload_n hP dX12_cutsUp_137 rfl ?_
                    refine x_bipush hP dX12_cutsUp_138 (v := 8) rfl ?_
                    obtain ⟨t59, het59, hf⟩ := b_bd hf
                    have hj59 : P 179 [some (.ref 67), some (.int l1), none, some (.int t55.1), some (.long t55.2), none, some (.int t59), none] [] LAY M := by
                      refine x_aload_n hP dX12_cutsUp_179 rfl ?_
                      refine x_iload hP dX12_cutsUp_180 rfl ?_
                      refine x_iload_n hP dX12_cutsUp_182 rfl ?_
                      refine x_iconst hP dX12_cutsUp_183 (v := 0) rfl ?_
                      refine x_lload hP dX12_cutsUp_184 rfl ?_
                      obtain ⟨M70, hc69, hf⟩ := b_bd hf
                      refine y_cvv hP oX12_token lX12_206 [.int t59, .int l1, .int (0 : Int32), .long t55.2] [] rfl rfl rfl lay67 dX12_cutsUp_186 (t_X12_token (d := d - 1) (by omega) hc69) (by omega) ?_
                      refine x_iload_n hP dX12_cutsUp_189 rfl ?_
                      refine x_iload_n hP dX12_cutsUp_190 rfl ?_
                      refine x_iadd hP dX12_cutsUp_191 ?_
                      obtain ⟨v71, hv71, hf⟩ := b_lt hf
                      refine y_nmI hv71 ?_
                      refine x_istore_n hP (ls2 := [some (.ref 67), some (.int v71), none, some (.int t55.1), some (.long t55.2), none, some (.int t59), none]) dX12_cutsUp_192 rfl rfl rfl ?_
                      refine x_goto hP dX12_cutsUp_193 (tgt := 291) (by decide) ?_
                      refine x_goto hP dX12_cutsUp_291 (tgt := 7) (by decide) ?_
                      refine x_drop hP [some (.ref 67), some (.int v71), none, none, none, none, none, none] (And.intro rfl (And.intro rfl trivial)) ?_
                      exact ih _ _ hf
                    clear hf
                    have hf := het59
                    clear het59
                    refine x_icmp_gt hP dX12_cutsUp_140 (tgt := 179) (by decide) (fun c60 => ?_) (fun c60 => ?_)
                    · replace hf := p_t c60 hf
                      refine x_drop hP [some (.ref 67), some (.int l1), none, some (.int t55.1), some (.long t55.2), none, some (.int t57), none] (And.intro rfl (And.intro rfl (And.intro rfl (And.intro rfl (And.intro rfl trivial))))) ?_
                      cases hf
                      exact hj59
                    · replace hf := p_f c60 hf
                      refine x_iconst hP dX12_cutsUp_143 (v := 0) rfl ?_
                      refine x_istore hP (ls2 := [some (.ref 67), some (.int l1), none, some (.int t55.1), some (.long t55.2), none, some (.int t57), some (.int (0 : Int32))]) dX12_cutsUp_144 rfl rfl ?_
                      refine x_drop hP [some (.ref 67), some (.int l1), none, some (.int t55.1), some (.long t55.2), none, some (.int t57), some (.int (0 : Int32))] (And.intro rfl (And.intro rfl (And.intro rfl (And.intro rfl (And.intro rfl (And.intro rfl trivial)))))) ?_
                      obtain ⟨t67, hl68, hf⟩ := b_bd hf
                      refine t_X12_cutsUp_L146 hd hP _ _ _ _ _ _ _ _ hl68 ?_
                      refine x_drop hP [some (.ref 67), some (.int l1), none, some (.int t55.1), some (.long t55.2), none, some (.int t67), none] (And.intro rfl (And.intro rfl (And.intro rfl (And.intro rfl (And.intro rfl trivial))))) ?_
                      cases hf
                      exact hj59
                  clear hf
                  have hf := het57
                  clear het57
                  refine x_icmp_le hP dX12_cutsUp_127 (tgt := 134) (by decide) (fun c58 => ?_) (fun c58 => ?_)
                  · replace hf := e_t c58 hf
                    refine x_iconst hP dX12_cutsUp_134 (v := 1) rfl ?_
                    refine x_drop hP [some (.ref 67), some (.int l1), none, some (.int t55.1), some (.long t55.2), none, none, none] (And.intro rfl (And.intro rfl (And.intro rfl (And.intro rfl trivial)))) ?_
                    subst hf
                    exact hj57
                  · replace hf := e_f c58 hf
                    refine x_iconst hP dX12_cutsUp_130 (v := 3) rfl ?_
                    refine x_goto hP dX12_cutsUp_131 (tgt := 135) (by decide) ?_
                    refine x_drop hP [some (.ref 67), some (.int l1), none, some (.int t55.1), some (.long t55.2), none, none, none] (And.intro rfl (And.intro rfl (And.intro rfl (And.intro rfl trivial)))) ?_
                    subst hf
                    exact hj57
              · replace hf := p_t c12 hf
                obtain ⟨v13, hv13, hf⟩ := b_lt hf
                refine x_iinc hP (v := v13) (ls2 := [some (.ref 67), some (.int v13), some (.int v4), none, none, none, none, none]) dX12_cutsUp_67 rfl (by rw [hv13]; rfl) rfl rfl ?_
                refine x_goto hP dX12_cutsUp_70 (tgt := 291) (by decide) ?_
                refine x_goto hP dX12_cutsUp_291 (tgt := 7) (by decide) ?_
                refine x_drop hP [some (.ref 67), some (.int v13), none, none, none, none, none, none] (And.intro rfl (And.intro rfl trivial)) ?_
                exact ih _ _ hf
      · replace hf := p_f c5 hf
        refine x_aload_n hP dX12_cutsUp_31 rfl ?_
        refine x_iconst hP dX12_cutsUp_32 (v := 0) rfl ?_
        refine x_aload_n hP dX12_cutsUp_33 rfl ?_
        refine x_getI hP fX12_190 lay67 dX12_cutsUp_34 ?_
        refine x_iconst hP dX12_cutsUp_37 (v := 0) rfl ?_
        refine x_lconst hP dX12_cutsUp_38 (v := 0) rfl ?_
        obtain ⟨M73, hc72, hf⟩ := b_bd hf
        refine y_cvv hP oX12_token lX12_206 [.int (0 : Int32), .int (M.1 67 4), .int (0 : Int32), .long (0 : Int64)] [] rfl rfl rfl lay67 dX12_cutsUp_39 (t_X12_token (d := d - 1) (by omega) hc72) (by omega) ?_
        cases hf
        exact x_vret hP rfl dX12_cutsUp_42
set_option maxHeartbeats 1000000 in
set_option maxRecDepth 20000 in
theorem t_X12_cutsUp {g : GG} {d : Nat} (hd : 3 ≤ d) {M : Mem} {M' : Mem} (hf : f_X12_cutsUp M = some M') : ExM g d iX12_cutsUp [.ref 67] LAY M (none, LAY, M') := by
  have hd1 : 1 ≤ d := by omega
  refine ExM.main pnX12 rfl (ls := [some (.ref 67), none, none, none, none, none, none, none]) rfl ?_
  intro P hP
  rw [f_X12_cutsUp] at hf
  refine x_aload_n hP dX12_cutsUp_0 rfl ?_
  refine x_iconst hP dX12_cutsUp_1 (v := 0) rfl ?_
  obtain ⟨M1, hM1, hf⟩ := b_lt hf
  refine y_putI hP fX12_199 lay67 hM1 dX12_cutsUp_2 ?_
  refine x_iconst hP dX12_cutsUp_5 (v := 0) rfl ?_
  refine x_istore_n hP (ls2 := [some (.ref 67), some (.int (0 : Int32)), none, none, none, none, none, none]) dX12_cutsUp_6 rfl rfl rfl ?_
  refine x_drop hP [some (.ref 67), some (.int (0 : Int32)), none, none, none, none, none, none] (And.intro rfl (And.intro rfl trivial)) ?_
  refine t_X12_cutsUp_L7 hd hP (fun t74 hf => ?_) _ _ _ hf
  cases hf
  exact x_vret hP rfl dX12_cutsUp_294
def f_X12_is (x1 : Int32) (M : Mem) : Option (Int32) :=
  if M.1 67 13 = 0 then
    (ag M 70 403 (M.1 67 11)).bind fun v2 =>
    if v2 = x1 then
      some (1 : Int32)
    else
      some (0 : Int32)
  else
    some (0 : Int32)
set_option maxHeartbeats 1000000 in
set_option maxRecDepth 20000 in
theorem t_X12_is {g : GG} {d : Nat} (hd : 1 ≤ d) {x1 : Int32} {M : Mem} {r : Int32} (hf : f_X12_is x1 M = some r) : ExM g d iX12_is [.ref 67, .int x1] LAY M (some (.int r), LAY, M) := by
  have hd1 : 1 ≤ d := by omega
  refine ExM.main pnX12 rfl (ls := [some (.ref 67), some (.int x1)]) rfl ?_
  intro P hP
  rw [f_X12_is] at hf
  refine x_aload_n hP dX12_is_0 rfl ?_
  refine x_getI hP fX12_221 lay67 dX12_is_1 ?_
  refine x_if_ne hP dX12_is_4 (tgt := 24) (by decide) (fun c1 => ?_) (fun c1 => ?_)
  · replace hf := p_f c1 hf
    refine x_iconst hP dX12_is_24 (v := 0) rfl ?_
    cases hf
    exact x_zret hP rfl (Or.inl rfl) dX12_is_25
  · replace hf := p_t c1 hf
    refine x_aload_n hP dX12_is_7 rfl ?_
    refine x_getA hP fX12_20 lay67 (r := 70) rfl dX12_is_8 ?_
    refine x_aload_n hP dX12_is_11 rfl ?_
    refine x_getI hP fX12_224 lay67 dX12_is_12 ?_
    obtain ⟨v2, hiv2, hv2, hf⟩ := b_ag hf
    refine y_ald hP lay70 hiv2 hv2 dX12_is_15 ?_
    refine x_iload_n hP dX12_is_16 rfl ?_
    refine x_icmp_ne hP dX12_is_17 (tgt := 24) (by decide) (fun c3 => ?_) (fun c3 => ?_)
    · replace hf := p_f c3 hf
      refine x_iconst hP dX12_is_24 (v := 0) rfl ?_
      cases hf
      exact x_zret hP rfl (Or.inl rfl) dX12_is_25
    · replace hf := p_t c3 hf
      refine x_iconst hP dX12_is_20 (v := 1) rfl ?_
      refine x_goto hP dX12_is_21 (tgt := 25) (by decide) ?_
      cases hf
      exact x_zret hP rfl (Or.inr rfl) dX12_is_25
def f_X12_fail (x1 : Int32) (M : Mem) : Option (Mem) :=
  if M.1 67 13 ≤ 0 then
    lt (sI M 67 13 x1) fun M2 =>
    (ag M2 71 403 (M2.1 67 11)).bind fun v3 =>
    lt (sI M2 67 14 v3) fun M4 =>
    some M4
  else
    some M
set_option maxHeartbeats 1000000 in
set_option maxRecDepth 20000 in
theorem t_X12_fail {g : GG} {d : Nat} (hd : 1 ≤ d) {x1 : Int32} {M : Mem} {M' : Mem} (hf : f_X12_fail x1 M = some M') : ExM g d iX12_fail [.ref 67, .int x1] LAY M (none, LAY, M') := by
  have hd1 : 1 ≤ d := by omega
  refine ExM.main pnX12 rfl (ls := [some (.ref 67), some (.int x1)]) rfl ?_
  intro P hP
  rw [f_X12_fail] at hf
  refine x_aload_n hP dX12_fail_0 rfl ?_
  refine x_getI hP fX12_221 lay67 dX12_fail_1 ?_
  refine x_if_le hP dX12_fail_4 (tgt := 8) (by decide) (fun c1 => ?_) (fun c1 => ?_)
  · replace hf := p_t c1 hf
    refine x_aload_n hP dX12_fail_8 rfl ?_
    refine x_iload_n hP dX12_fail_9 rfl ?_
    obtain ⟨M2, hM2, hf⟩ := b_lt hf
    refine y_putI hP fX12_221 lay67 hM2 dX12_fail_10 ?_
    refine x_aload_n hP dX12_fail_13 rfl ?_
    refine x_aload_n hP dX12_fail_14 rfl ?_
    refine x_getA hP fX12_24 lay67 (r := 71) rfl dX12_fail_15 ?_
    refine x_aload_n hP dX12_fail_18 rfl ?_
    refine x_getI hP fX12_224 lay67 dX12_fail_19 ?_
    obtain ⟨v3, hiv3, hv3, hf⟩ := b_ag hf
    refine y_ald hP lay71 hiv3 hv3 dX12_fail_22 ?_
    obtain ⟨M4, hM4, hf⟩ := b_lt hf
    refine y_putI hP fX12_227 lay67 hM4 dX12_fail_23 ?_
    cases hf
    exact x_vret hP rfl dX12_fail_26
  · replace hf := p_f c1 hf
    cases hf
    exact x_vret hP rfl dX12_fail_7
def f_X12_wrong (x1 : Int32) (x2 : Int32) (M : Mem) : Option (Mem) :=
  (ag M 71 403 x2).bind fun v1 =>
  if 0 < M.1 67 13 then
    some M
  else
    lt (
      lt (sI M 67 15 x1) fun M4 =>
      lt (sI M4 67 16 v1) fun M5 =>
      some M5
      ) fun j3 =>
    if M.1 67 15 = 0 then
      j3
    else
      if M.1 67 16 < v1 then
        some M
      else
        if v1 = M.1 67 16 then
          if x1 < M.1 67 15 then
            j3
          else
            some M
        else
          j3
set_option maxHeartbeats 1000000 in
set_option maxRecDepth 20000 in
theorem t_X12_wrong {g : GG} {d : Nat} (hd : 1 ≤ d) {x1 : Int32} {x2 : Int32} {M : Mem} {M' : Mem} (hf : f_X12_wrong x1 x2 M = some M') : ExM g d iX12_wrong [.ref 67, .int x1, .int x2] LAY M (none, LAY, M') := by
  have hd1 : 1 ≤ d := by omega
  refine ExM.main pnX12 rfl (ls := [some (.ref 67), some (.int x1), some (.int x2), none]) rfl ?_
  intro P hP
  rw [f_X12_wrong] at hf
  refine x_aload_n hP dX12_wrong_0 rfl ?_
  refine x_getA hP fX12_24 lay67 (r := 71) rfl dX12_wrong_1 ?_
  refine x_iload_n hP dX12_wrong_4 rfl ?_
  obtain ⟨v1, hiv1, hv1, hf⟩ := b_ag hf
  refine y_ald hP lay71 hiv1 hv1 dX12_wrong_5 ?_
  refine x_istore_n hP (ls2 := [some (.ref 67), some (.int x1), some (.int x2), some (.int v1)]) dX12_wrong_6 rfl rfl rfl ?_
  refine x_aload_n hP dX12_wrong_7 rfl ?_
  refine x_getI hP fX12_221 lay67 dX12_wrong_8 ?_
  refine x_if_gt hP dX12_wrong_11 (tgt := 45) (by decide) (fun c2 => ?_) (fun c2 => ?_)
  · replace hf := p_t c2 hf
    cases hf
    exact x_vret hP rfl dX12_wrong_45
  · replace hf := p_f c2 hf
    refine x_aload_n hP dX12_wrong_14 rfl ?_
    refine x_getI hP fX12_230 lay67 dX12_wrong_15 ?_
    obtain ⟨j3, hj3, hf⟩ := b_lt hf
    have hJj3 : j3 = some M' → P 46 [some (.ref 67), some (.int x1), none, some (.int v1)] [] LAY M := by
      intro hf
      rw [hj3] at hf
      try dsimp only at hf
      refine x_aload_n hP dX12_wrong_46 rfl ?_
      refine x_iload_n hP dX12_wrong_47 rfl ?_
      obtain ⟨M4, hM4, hf⟩ := b_lt hf
      refine y_putI hP fX12_230 lay67 hM4 dX12_wrong_48 ?_
      refine x_aload_n hP dX12_wrong_51 rfl ?_
      refine x_iload_n hP dX12_wrong_52 rfl ?_
      obtain ⟨M5, hM5, hf⟩ := b_lt hf
      refine y_putI hP fX12_233 lay67 hM5 dX12_wrong_53 ?_
      cases hf
      exact x_vret hP rfl dX12_wrong_56
    clear hj3
    refine x_if_eq hP dX12_wrong_18 (tgt := 46) (by decide) (fun c6 => ?_) (fun c6 => ?_)
    · replace hf := p_t c6 hf
      refine x_drop hP [some (.ref 67), some (.int x1), none, some (.int v1)] (And.intro rfl (And.intro rfl (And.intro rfl trivial))) ?_
      exact hJj3  hf
    · replace hf := p_f c6 hf
      refine x_iload_n hP dX12_wrong_21 rfl ?_
      refine x_aload_n hP dX12_wrong_22 rfl ?_
      refine x_getI hP fX12_233 lay67 dX12_wrong_23 ?_
      refine x_icmp_gt hP dX12_wrong_26 (tgt := 45) (by decide) (fun c7 => ?_) (fun c7 => ?_)
      · replace hf := p_t c7 hf
        cases hf
        exact x_vret hP rfl dX12_wrong_45
      · replace hf := p_f c7 hf
        refine x_iload_n hP dX12_wrong_29 rfl ?_
        refine x_aload_n hP dX12_wrong_30 rfl ?_
        refine x_getI hP fX12_233 lay67 dX12_wrong_31 ?_
        refine x_icmp_ne hP dX12_wrong_34 (tgt := 46) (by decide) (fun c8 => ?_) (fun c8 => ?_)
        · replace hf := p_f c8 hf
          refine x_drop hP [some (.ref 67), some (.int x1), none, some (.int v1)] (And.intro rfl (And.intro rfl (And.intro rfl trivial))) ?_
          exact hJj3  hf
        · replace hf := p_t c8 hf
          refine x_iload_n hP dX12_wrong_37 rfl ?_
          refine x_aload_n hP dX12_wrong_38 rfl ?_
          refine x_getI hP fX12_230 lay67 dX12_wrong_39 ?_
          refine x_icmp_lt hP dX12_wrong_42 (tgt := 46) (by decide) (fun c9 => ?_) (fun c9 => ?_)
          · replace hf := p_t c9 hf
            refine x_drop hP [some (.ref 67), some (.int x1), none, some (.int v1)] (And.intro rfl (And.intro rfl (And.intro rfl trivial))) ?_
            exact hJj3  hf
          · replace hf := p_f c9 hf
            cases hf
            exact x_vret hP rfl dX12_wrong_45
def f_X12_goesOn (M : Mem) : Option (Mem) :=
  if M.1 67 11 = (400 : Int32) then
    (f_X12_fail (2 : Int32) M).bind fun M3 =>
    some M3
  else
    lt (sI M 67 11 ((M.1 67 11) + (1 : Int32))) fun M4 =>
    some M4
set_option maxHeartbeats 1000000 in
set_option maxRecDepth 20000 in
theorem t_X12_goesOn {g : GG} {d : Nat} (hd : 2 ≤ d) {M : Mem} {M' : Mem} (hf : f_X12_goesOn M = some M') : ExM g d iX12_goesOn [.ref 67] LAY M (none, LAY, M') := by
  have hd1 : 1 ≤ d := by omega
  refine ExM.main pnX12 rfl (ls := [some (.ref 67)]) rfl ?_
  intro P hP
  rw [f_X12_goesOn] at hf
  refine x_aload_n hP dX12_goesOn_0 rfl ?_
  refine x_getI hP fX12_224 lay67 dX12_goesOn_1 ?_
  refine x_sipush hP dX12_goesOn_4 (v := 400) rfl ?_
  refine x_icmp_ne hP dX12_goesOn_7 (tgt := 18) (by decide) (fun c1 => ?_) (fun c1 => ?_)
  · replace hf := p_f c1 hf
    refine x_aload_n hP dX12_goesOn_18 rfl ?_
    refine x_dup hP dX12_goesOn_19 rfl ?_
    refine x_getI hP fX12_224 lay67 dX12_goesOn_20 ?_
    refine x_iconst hP dX12_goesOn_23 (v := 1) rfl ?_
    refine x_iadd hP dX12_goesOn_24 ?_
    obtain ⟨M4, hM4, hf⟩ := b_lt hf
    refine y_putI hP fX12_224 lay67 hM4 dX12_goesOn_25 ?_
    cases hf
    exact x_vret hP rfl dX12_goesOn_28
  · replace hf := p_t c1 hf
    refine x_aload_n hP dX12_goesOn_10 rfl ?_
    refine x_iconst hP dX12_goesOn_11 (v := 2) rfl ?_
    obtain ⟨M3, hc2, hf⟩ := b_bd hf
    refine y_cvv hP oX12_fail lX12_236 [.int (2 : Int32)] [] rfl rfl rfl lay67 dX12_goesOn_12 (t_X12_fail (d := d - 1) (by omega) hc2) (by omega) ?_
    refine x_goto hP dX12_goesOn_15 (tgt := 28) (by decide) ?_
    cases hf
    exact x_vret hP rfl dX12_goesOn_28
def f_X12_must (x1 : Int32) (M : Mem) : Option (Mem) :=
  (f_X12_is x1 M).bind fun v2 =>
  if v2 = 0 then
    (f_X12_fail (1 : Int32) M).bind fun M5 =>
    some M5
  else
    (f_X12_goesOn M).bind fun M7 =>
    some M7
set_option maxHeartbeats 1000000 in
set_option maxRecDepth 20000 in
theorem t_X12_must {g : GG} {d : Nat} (hd : 3 ≤ d) {x1 : Int32} {M : Mem} {M' : Mem} (hf : f_X12_must x1 M = some M') : ExM g d iX12_must [.ref 67, .int x1] LAY M (none, LAY, M') := by
  have hd1 : 1 ≤ d := by omega
  refine ExM.main pnX12 rfl (ls := [some (.ref 67), some (.int x1)]) rfl ?_
  intro P hP
  rw [f_X12_must] at hf
  refine x_aload_n hP dX12_must_0 rfl ?_
  refine x_iload_n hP dX12_must_1 rfl ?_
  obtain ⟨v2, hc1, hf⟩ := b_bd hf
  refine y_cvi hP oX12_is lX12_239 [.int x1] [] rfl rfl rfl lay67 dX12_must_2 (t_X12_is (d := d - 1) (by omega) hc1) (by omega) ?_
  refine x_if_eq hP dX12_must_5 (tgt := 15) (by decide) (fun c3 => ?_) (fun c3 => ?_)
  · replace hf := p_t c3 hf
    refine x_aload_n hP dX12_must_15 rfl ?_
    refine x_iconst hP dX12_must_16 (v := 1) rfl ?_
    obtain ⟨M5, hc4, hf⟩ := b_bd hf
    refine y_cvv hP oX12_fail lX12_236 [.int (1 : Int32)] [] rfl rfl rfl lay67 dX12_must_17 (t_X12_fail (d := d - 1) (by omega) hc4) (by omega) ?_
    cases hf
    exact x_vret hP rfl dX12_must_20
  · replace hf := p_f c3 hf
    refine x_aload_n hP dX12_must_8 rfl ?_
    obtain ⟨M7, hc6, hf⟩ := b_bd hf
    refine y_cvv hP oX12_goesOn lX12_242 [] [] rfl rfl rfl lay67 dX12_must_9 (t_X12_goesOn (d := d - 1) (by omega) hc6) (by omega) ?_
    refine x_goto hP dX12_must_12 (tgt := 20) (by decide) ?_
    cases hf
    exact x_vret hP rfl dX12_must_20
def f_X12_plain_L51 : Nat → Int32 → Int32 → Mem → Option (Mem)
  | 0, _, _, _ => none
  | fu + 1, l1, l2, M =>
    if (4 : Int32) ≤ l2 then
      some M
    else
      (pg M 91 8 (((4 : Int32) * l1) + l2) (0 : Int32)).bind fun M9 =>
      (pg M9 92 8 (((4 : Int32) * l1) + l2) (0 : Int32)).bind fun M10 =>
      lt (l2 + 1 : Int32) fun v11 =>
      f_X12_plain_L51 fu l1 v11 M10
def f_X12_plain (x1 : Int32) (M : Mem) : Option (Mem) :=
  (pg M 77 2 x1 (0 : Int32)).bind fun M1 =>
  (pg M1 78 2 x1 (0 : Int32)).bind fun M2 =>
  (pg M2 82 2 x1 (0 : Int32)).bind fun M3 =>
  (pg M3 86 2 x1 (0 : Int32)).bind fun M4 =>
  (pg M4 88 2 x1 (0 : Int32)).bind fun M5 =>
  (pg M5 89 2 x1 (0 : Int32)).bind fun M6 =>
  (pg M6 90 2 x1 (0 : Int32)).bind fun M7 =>
  (f_X12_plain_L51 FU x1 (0 : Int32) M7).bind fun t12 =>
  some t12
set_option maxHeartbeats 1000000 in
set_option maxRecDepth 20000 in
theorem t_X12_plain_L51 {g : GG} {d : Nat} {P : PT} {res : Option RS} (hd : 1 ≤ d)  (hP : IsM g iX12_plain d res P) : ∀ (fu : Nat) (l1 : Int32) (l2 : Int32) (M : Mem) (t : Mem), f_X12_plain_L51 fu l1 l2 M = some t → P 84 [none, none, none] [] LAY t → P 51 [some (.ref 67), some (.int l1), some (.int l2)] [] LAY M := by
  have hd1 : 1 ≤ d := by omega
  intro fu
  induction fu with
  | zero => intro l1 l2 M t hf; simp [f_X12_plain_L51] at hf
  | succ fu ih =>
    intro l1 l2 M t hf hx
    rw [f_X12_plain_L51] at hf
    refine x_iload_n hP dX12_plain_51 rfl ?_
    refine x_iconst hP dX12_plain_52 (v := 4) rfl ?_
    refine x_icmp_ge hP dX12_plain_53 (tgt := 84) (by decide) (fun c8 => ?_) (fun c8 => ?_)
    · replace hf := p_t c8 hf
      refine x_drop hP [none, none, none] trivial ?_
      cases hf
      exact hx
    · replace hf := p_f c8 hf
      refine x_aload_n hP dX12_plain_56 rfl ?_
      refine x_getA hP fX12_88 lay67 (r := 91) rfl dX12_plain_57 ?_
      refine x_iconst hP dX12_plain_60 (v := 4) rfl ?_
      refine x_iload_n hP dX12_plain_61 rfl ?_
      refine x_imul hP dX12_plain_62 ?_
      refine x_iload_n hP dX12_plain_63 rfl ?_
      refine x_iadd hP dX12_plain_64 ?_
      refine x_iconst hP dX12_plain_65 (v := 0) rfl ?_
      obtain ⟨M9, hiM9, hM9, hf⟩ := b_pg hf
      refine y_ast hP lay91 hiM9 hM9 dX12_plain_66 ?_
      refine x_aload_n hP dX12_plain_67 rfl ?_
      refine x_getA hP fX12_91 lay67 (r := 92) rfl dX12_plain_68 ?_
      refine x_iconst hP dX12_plain_71 (v := 4) rfl ?_
      refine x_iload_n hP dX12_plain_72 rfl ?_
      refine x_imul hP dX12_plain_73 ?_
      refine x_iload_n hP dX12_plain_74 rfl ?_
      refine x_iadd hP dX12_plain_75 ?_
      refine x_iconst hP dX12_plain_76 (v := 0) rfl ?_
      obtain ⟨M10, hiM10, hM10, hf⟩ := b_pg hf
      refine y_ast hP lay92 hiM10 hM10 dX12_plain_77 ?_
      obtain ⟨v11, hv11, hf⟩ := b_lt hf
      refine x_iinc hP (v := v11) (ls2 := [some (.ref 67), some (.int l1), some (.int v11)]) dX12_plain_78 rfl (by rw [hv11]; rfl) rfl rfl ?_
      refine x_goto hP dX12_plain_81 (tgt := 51) (by decide) ?_
      refine x_drop hP [some (.ref 67), some (.int l1), some (.int v11)] (And.intro rfl (And.intro rfl (And.intro rfl trivial))) ?_
      exact ih _ _ _ _ hf hx
set_option maxHeartbeats 1000000 in
set_option maxRecDepth 20000 in
theorem t_X12_plain {g : GG} {d : Nat} (hd : 1 ≤ d) {x1 : Int32} {M : Mem} {M' : Mem} (hf : f_X12_plain x1 M = some M') : ExM g d iX12_plain [.ref 67, .int x1] LAY M (none, LAY, M') := by
  have hd1 : 1 ≤ d := by omega
  refine ExM.main pnX12 rfl (ls := [some (.ref 67), some (.int x1), none]) rfl ?_
  intro P hP
  rw [f_X12_plain] at hf
  refine x_aload_n hP dX12_plain_0 rfl ?_
  refine x_getA hP fX12_46 lay67 (r := 77) rfl dX12_plain_1 ?_
  refine x_iload_n hP dX12_plain_4 rfl ?_
  refine x_iconst hP dX12_plain_5 (v := 0) rfl ?_
  obtain ⟨M1, hiM1, hM1, hf⟩ := b_pg hf
  refine y_ast hP lay77 hiM1 hM1 dX12_plain_6 ?_
  refine x_aload_n hP dX12_plain_7 rfl ?_
  refine x_getA hP fX12_49 lay67 (r := 78) rfl dX12_plain_8 ?_
  refine x_iload_n hP dX12_plain_11 rfl ?_
  refine x_iconst hP dX12_plain_12 (v := 0) rfl ?_
  obtain ⟨M2, hiM2, hM2, hf⟩ := b_pg hf
  refine y_ast hP lay78 hiM2 hM2 dX12_plain_13 ?_
  refine x_aload_n hP dX12_plain_14 rfl ?_
  refine x_getA hP fX12_61 lay67 (r := 82) rfl dX12_plain_15 ?_
  refine x_iload_n hP dX12_plain_18 rfl ?_
  refine x_iconst hP dX12_plain_19 (v := 0) rfl ?_
  obtain ⟨M3, hiM3, hM3, hf⟩ := b_pg hf
  refine y_ast hP lay82 hiM3 hM3 dX12_plain_20 ?_
  refine x_aload_n hP dX12_plain_21 rfl ?_
  refine x_getA hP fX12_73 lay67 (r := 86) rfl dX12_plain_22 ?_
  refine x_iload_n hP dX12_plain_25 rfl ?_
  refine x_iconst hP dX12_plain_26 (v := 0) rfl ?_
  obtain ⟨M4, hiM4, hM4, hf⟩ := b_pg hf
  refine y_ast hP lay86 hiM4 hM4 dX12_plain_27 ?_
  refine x_aload_n hP dX12_plain_28 rfl ?_
  refine x_getA hP fX12_79 lay67 (r := 88) rfl dX12_plain_29 ?_
  refine x_iload_n hP dX12_plain_32 rfl ?_
  refine x_iconst hP dX12_plain_33 (v := 0) rfl ?_
  obtain ⟨M5, hiM5, hM5, hf⟩ := b_pg hf
  refine y_ast hP lay88 hiM5 hM5 dX12_plain_34 ?_
  refine x_aload_n hP dX12_plain_35 rfl ?_
  refine x_getA hP fX12_82 lay67 (r := 89) rfl dX12_plain_36 ?_
  refine x_iload_n hP dX12_plain_39 rfl ?_
  refine x_iconst hP dX12_plain_40 (v := 0) rfl ?_
  obtain ⟨M6, hiM6, hM6, hf⟩ := b_pg hf
  refine y_ast hP lay89 hiM6 hM6 dX12_plain_41 ?_
  refine x_aload_n hP dX12_plain_42 rfl ?_
  refine x_getA hP fX12_85 lay67 (r := 90) rfl dX12_plain_43 ?_
  refine x_iload_n hP dX12_plain_46 rfl ?_
  refine x_iconst hP dX12_plain_47 (v := 0) rfl ?_
  obtain ⟨M7, hiM7, hM7, hf⟩ := b_pg hf
  refine y_ast hP lay90 hiM7 hM7 dX12_plain_48 ?_
  refine x_iconst hP dX12_plain_49 (v := 0) rfl ?_
  refine x_istore_n hP (ls2 := [some (.ref 67), some (.int x1), some (.int (0 : Int32))]) dX12_plain_50 rfl rfl rfl ?_
  refine x_drop hP [some (.ref 67), some (.int x1), some (.int (0 : Int32))] (And.intro rfl (And.intro rfl (And.intro rfl trivial))) ?_
  obtain ⟨t12, hl13, hf⟩ := b_bd hf
  refine t_X12_plain_L51 hd hP _ _ _ _ _ hl13 ?_
  cases hf
  exact x_vret hP rfl dX12_plain_84
set_option maxHeartbeats 1000000 in
set_option maxRecDepth 20000 in
theorem u_X12_plain_L51 {g : GG} {L : List Lay} {d : Nat} {P : PT} {res : Option RS} (hd : 1 ≤ d) (hA : ∀ (id : Nat) (y : Lay), LAY[id]? = some y → 67 ≤ id ∧ id < 118 → L[id]? = some y)  (hP : IsW g iX12_plain d L.length (szL L) res P) : ∀ (fu : Nat) (l1 : Int32) (l2 : Int32) (M : Mem) (t : Mem), f_X12_plain_L51 fu l1 l2 M = some t → P 84 [none, none, none] [] L t → P 51 [some (.ref 67), some (.int l1), some (.int l2)] [] L M := by
  have hd1 : 1 ≤ d := by omega
  intro fu
  induction fu with
  | zero => intro l1 l2 M t hf; simp [f_X12_plain_L51] at hf
  | succ fu ih =>
    intro l1 l2 M t hf hx
    rw [f_X12_plain_L51] at hf
    refine x_iload_n hP dX12_plain_51 rfl ?_
    refine x_iconst hP dX12_plain_52 (v := 4) rfl ?_
    refine x_icmp_ge hP dX12_plain_53 (tgt := 84) (by decide) (fun c8 => ?_) (fun c8 => ?_)
    · replace hf := p_t c8 hf
      refine x_drop hP [none, none, none] trivial ?_
      cases hf
      exact hx
    · replace hf := p_f c8 hf
      refine x_aload_n hP dX12_plain_56 rfl ?_
      refine x_getA hP fX12_88 (hA _ _ lay67 (by decide)) (r := 91) rfl dX12_plain_57 ?_
      refine x_iconst hP dX12_plain_60 (v := 4) rfl ?_
      refine x_iload_n hP dX12_plain_61 rfl ?_
      refine x_imul hP dX12_plain_62 ?_
      refine x_iload_n hP dX12_plain_63 rfl ?_
      refine x_iadd hP dX12_plain_64 ?_
      refine x_iconst hP dX12_plain_65 (v := 0) rfl ?_
      obtain ⟨M9, hiM9, hM9, hf⟩ := b_pg hf
      refine y_ast hP (hA _ _ lay91 (by decide)) hiM9 hM9 dX12_plain_66 ?_
      refine x_aload_n hP dX12_plain_67 rfl ?_
      refine x_getA hP fX12_91 (hA _ _ lay67 (by decide)) (r := 92) rfl dX12_plain_68 ?_
      refine x_iconst hP dX12_plain_71 (v := 4) rfl ?_
      refine x_iload_n hP dX12_plain_72 rfl ?_
      refine x_imul hP dX12_plain_73 ?_
      refine x_iload_n hP dX12_plain_74 rfl ?_
      refine x_iadd hP dX12_plain_75 ?_
      refine x_iconst hP dX12_plain_76 (v := 0) rfl ?_
      obtain ⟨M10, hiM10, hM10, hf⟩ := b_pg hf
      refine y_ast hP (hA _ _ lay92 (by decide)) hiM10 hM10 dX12_plain_77 ?_
      obtain ⟨v11, hv11, hf⟩ := b_lt hf
      refine x_iinc hP (v := v11) (ls2 := [some (.ref 67), some (.int l1), some (.int v11)]) dX12_plain_78 rfl (by rw [hv11]; rfl) rfl rfl ?_
      refine x_goto hP dX12_plain_81 (tgt := 51) (by decide) ?_
      refine x_drop hP [some (.ref 67), some (.int l1), some (.int v11)] (And.intro rfl (And.intro rfl (And.intro rfl trivial))) ?_
      exact ih _ _ _ _ hf hx
set_option maxHeartbeats 1000000 in
set_option maxRecDepth 20000 in
theorem u_X12_plain {g : GG} {L : List Lay} {d : Nat} (hd : 1 ≤ d) (hA : ∀ (id : Nat) (y : Lay), LAY[id]? = some y → 67 ≤ id ∧ id < 118 → L[id]? = some y) {x1 : Int32} {M : Mem} {M' : Mem} (hf : f_X12_plain x1 M = some M') : ExM g d iX12_plain [.ref 67, .int x1] L M (none, L, M') := by
  have hd1 : 1 ≤ d := by omega
  refine ExM.main pnX12 rfl (ls := [some (.ref 67), some (.int x1), none]) rfl ?_
  intro P hP
  rw [f_X12_plain] at hf
  refine x_aload_n hP dX12_plain_0 rfl ?_
  refine x_getA hP fX12_46 (hA _ _ lay67 (by decide)) (r := 77) rfl dX12_plain_1 ?_
  refine x_iload_n hP dX12_plain_4 rfl ?_
  refine x_iconst hP dX12_plain_5 (v := 0) rfl ?_
  obtain ⟨M1, hiM1, hM1, hf⟩ := b_pg hf
  refine y_ast hP (hA _ _ lay77 (by decide)) hiM1 hM1 dX12_plain_6 ?_
  refine x_aload_n hP dX12_plain_7 rfl ?_
  refine x_getA hP fX12_49 (hA _ _ lay67 (by decide)) (r := 78) rfl dX12_plain_8 ?_
  refine x_iload_n hP dX12_plain_11 rfl ?_
  refine x_iconst hP dX12_plain_12 (v := 0) rfl ?_
  obtain ⟨M2, hiM2, hM2, hf⟩ := b_pg hf
  refine y_ast hP (hA _ _ lay78 (by decide)) hiM2 hM2 dX12_plain_13 ?_
  refine x_aload_n hP dX12_plain_14 rfl ?_
  refine x_getA hP fX12_61 (hA _ _ lay67 (by decide)) (r := 82) rfl dX12_plain_15 ?_
  refine x_iload_n hP dX12_plain_18 rfl ?_
  refine x_iconst hP dX12_plain_19 (v := 0) rfl ?_
  obtain ⟨M3, hiM3, hM3, hf⟩ := b_pg hf
  refine y_ast hP (hA _ _ lay82 (by decide)) hiM3 hM3 dX12_plain_20 ?_
  refine x_aload_n hP dX12_plain_21 rfl ?_
  refine x_getA hP fX12_73 (hA _ _ lay67 (by decide)) (r := 86) rfl dX12_plain_22 ?_
  refine x_iload_n hP dX12_plain_25 rfl ?_
  refine x_iconst hP dX12_plain_26 (v := 0) rfl ?_
  obtain ⟨M4, hiM4, hM4, hf⟩ := b_pg hf
  refine y_ast hP (hA _ _ lay86 (by decide)) hiM4 hM4 dX12_plain_27 ?_
  refine x_aload_n hP dX12_plain_28 rfl ?_
  refine x_getA hP fX12_79 (hA _ _ lay67 (by decide)) (r := 88) rfl dX12_plain_29 ?_
  refine x_iload_n hP dX12_plain_32 rfl ?_
  refine x_iconst hP dX12_plain_33 (v := 0) rfl ?_
  obtain ⟨M5, hiM5, hM5, hf⟩ := b_pg hf
  refine y_ast hP (hA _ _ lay88 (by decide)) hiM5 hM5 dX12_plain_34 ?_
  refine x_aload_n hP dX12_plain_35 rfl ?_
  refine x_getA hP fX12_82 (hA _ _ lay67 (by decide)) (r := 89) rfl dX12_plain_36 ?_
  refine x_iload_n hP dX12_plain_39 rfl ?_
  refine x_iconst hP dX12_plain_40 (v := 0) rfl ?_
  obtain ⟨M6, hiM6, hM6, hf⟩ := b_pg hf
  refine y_ast hP (hA _ _ lay89 (by decide)) hiM6 hM6 dX12_plain_41 ?_
  refine x_aload_n hP dX12_plain_42 rfl ?_
  refine x_getA hP fX12_85 (hA _ _ lay67 (by decide)) (r := 90) rfl dX12_plain_43 ?_
  refine x_iload_n hP dX12_plain_46 rfl ?_
  refine x_iconst hP dX12_plain_47 (v := 0) rfl ?_
  obtain ⟨M7, hiM7, hM7, hf⟩ := b_pg hf
  refine y_ast hP (hA _ _ lay90 (by decide)) hiM7 hM7 dX12_plain_48 ?_
  refine x_iconst hP dX12_plain_49 (v := 0) rfl ?_
  refine x_istore_n hP (ls2 := [some (.ref 67), some (.int x1), some (.int (0 : Int32))]) dX12_plain_50 rfl rfl rfl ?_
  refine x_drop hP [some (.ref 67), some (.int x1), some (.int (0 : Int32))] (And.intro rfl (And.intro rfl (And.intro rfl trivial))) ?_
  obtain ⟨t12, hl13, hf⟩ := b_bd hf
  refine u_X12_plain_L51 hd hA hP _ _ _ _ _ hl13 ?_
  cases hf
  exact x_vret hP rfl dX12_plain_84
def f_X12_roomFor (x1 : Int32) (x2 : Int32) (M : Mem) : Option (Mem) :=
  (
    if x1 = x2 then
      (f_X12_fail (2 : Int32) M).bind fun M4 =>
      some M4
    else
      some M
  ).bind fun t1 =>
  if t1.1 67 13 = 0 then
    (f_X12_goesOn t1).bind fun M7 =>
    some M7
  else
    some t1
set_option maxHeartbeats 1000000 in
set_option maxRecDepth 20000 in
theorem t_X12_roomFor {g : GG} {d : Nat} (hd : 3 ≤ d) {x1 : Int32} {x2 : Int32} {M : Mem} {M' : Mem} (hf : f_X12_roomFor x1 x2 M = some M') : ExM g d iX12_roomFor [.ref 67, .int x1, .int x2] LAY M (none, LAY, M') := by
  have hd1 : 1 ≤ d := by omega
  refine ExM.main pnX12 rfl (ls := [some (.ref 67), some (.int x1), some (.int x2)]) rfl ?_
  intro P hP
  rw [f_X12_roomFor] at hf
  refine x_iload_n hP dX12_roomFor_0 rfl ?_
  refine x_iload_n hP dX12_roomFor_1 rfl ?_
  obtain ⟨t1, het1, hf⟩ := b_bd hf
  have hj1 : P 10 [some (.ref 67), none, none] [] LAY t1 := by
    refine x_aload_n hP dX12_roomFor_10 rfl ?_
    refine x_getI hP fX12_221 lay67 dX12_roomFor_11 ?_
    refine x_if_ne hP dX12_roomFor_14 (tgt := 21) (by decide) (fun c5 => ?_) (fun c5 => ?_)
    · replace hf := p_f c5 hf
      cases hf
      exact x_vret hP rfl dX12_roomFor_21
    · replace hf := p_t c5 hf
      refine x_aload_n hP dX12_roomFor_17 rfl ?_
      obtain ⟨M7, hc6, hf⟩ := b_bd hf
      refine y_cvv hP oX12_goesOn lX12_242 [] [] rfl rfl rfl lay67 dX12_roomFor_18 (t_X12_goesOn (d := d - 1) (by omega) hc6) (by omega) ?_
      cases hf
      exact x_vret hP rfl dX12_roomFor_21
  clear hf
  have hf := het1
  clear het1
  refine x_icmp_ne hP dX12_roomFor_2 (tgt := 10) (by decide) (fun c2 => ?_) (fun c2 => ?_)
  · replace hf := p_f c2 hf
    refine x_drop hP [some (.ref 67), none, none] (And.intro rfl trivial) ?_
    cases hf
    exact hj1
  · replace hf := p_t c2 hf
    refine x_aload_n hP dX12_roomFor_5 rfl ?_
    refine x_iconst hP dX12_roomFor_6 (v := 2) rfl ?_
    obtain ⟨M4, hc3, hf⟩ := b_bd hf
    refine y_cvv hP oX12_fail lX12_236 [.int (2 : Int32)] [] rfl rfl rfl lay67 dX12_roomFor_7 (t_X12_fail (d := d - 1) (by omega) hc3) (by omega) ?_
    refine x_drop hP [some (.ref 67), none, none] (And.intro rfl trivial) ?_
    cases hf
    exact hj1
def f_X12_named_L12 : Nat → Int32 → Int32 → Mem → Option (Mem)
  | 0, _, _, _ => none
  | fu + 1, l1, l2, M =>
    if M.1 67 20 ≤ l2 then
      some M
    else
      if M.1 67 13 = 0 then
        (aj M 75 18 l2).bind fun v6 =>
        (aj M 73 403 l1).bind fun v7 =>
        if lg_cmp v6 v7 = 0 then
          (f_X12_wrong (3 : Int32) l1 M).bind fun M10 =>
          lt (l2 + 1 : Int32) fun v11 =>
          f_X12_named_L12 fu l1 v11 M10
        else
          lt (l2 + 1 : Int32) fun v12 =>
          f_X12_named_L12 fu l1 v12 M
      else
        some M
def f_X12_named (M : Mem) : Option (Int32 × Mem) :=
  lt (M.1 67 11 : Int32) fun v1 =>
  (f_X12_must (1 : Int32) M).bind fun M3 =>
  (f_X12_named_L12 FU v1 (0 : Int32) M3).bind fun t13 =>
  some (v1, t13)
set_option maxHeartbeats 1000000 in
set_option maxRecDepth 20000 in
theorem t_X12_named_L12 {g : GG} {d : Nat} {P : PT} {res : Option RS} (hd : 4 ≤ d)  (hP : IsM g iX12_named d res P) : ∀ (fu : Nat) (l1 : Int32) (l2 : Int32) (M : Mem) (t : Mem), f_X12_named_L12 fu l1 l2 M = some t → P 55 [none, some (.int l1), none] [] LAY t → P 12 [some (.ref 67), some (.int l1), some (.int l2)] [] LAY M := by
  have hd1 : 1 ≤ d := by omega
  intro fu
  induction fu with
  | zero => intro l1 l2 M t hf; simp [f_X12_named_L12] at hf
  | succ fu ih =>
    intro l1 l2 M t hf hx
    rw [f_X12_named_L12] at hf
    refine x_iload_n hP dX12_named_12 rfl ?_
    refine x_aload_n hP dX12_named_13 rfl ?_
    refine x_getI hP fX12_257 lay67 dX12_named_14 ?_
    refine x_icmp_ge hP dX12_named_17 (tgt := 55) (by decide) (fun c4 => ?_) (fun c4 => ?_)
    · replace hf := p_t c4 hf
      refine x_drop hP [none, some (.int l1), none] (And.intro rfl trivial) ?_
      cases hf
      exact hx
    · replace hf := p_f c4 hf
      refine x_aload_n hP dX12_named_20 rfl ?_
      refine x_getI hP fX12_221 lay67 dX12_named_21 ?_
      refine x_if_ne hP dX12_named_24 (tgt := 55) (by decide) (fun c5 => ?_) (fun c5 => ?_)
      · replace hf := p_f c5 hf
        refine x_drop hP [none, some (.int l1), none] (And.intro rfl trivial) ?_
        cases hf
        exact hx
      · replace hf := p_t c5 hf
        refine x_aload_n hP dX12_named_27 rfl ?_
        refine x_getA hP fX12_40 lay67 (r := 75) rfl dX12_named_28 ?_
        refine x_iload_n hP dX12_named_31 rfl ?_
        obtain ⟨v6, hiv6, hv6, hf⟩ := b_aj hf
        refine y_lld hP lay75 hiv6 hv6 dX12_named_32 ?_
        refine x_aload_n hP dX12_named_33 rfl ?_
        refine x_getA hP fX12_30 lay67 (r := 73) rfl dX12_named_34 ?_
        refine x_iload_n hP dX12_named_37 rfl ?_
        obtain ⟨v7, hiv7, hv7, hf⟩ := b_aj hf
        refine y_lld hP lay73 hiv7 hv7 dX12_named_38 ?_
        refine x_lcmp hP dX12_named_39 ?_
        refine x_if_ne hP dX12_named_40 (tgt := 49) (by decide) (fun c8 => ?_) (fun c8 => ?_)
        · replace hf := p_f c8 hf
          obtain ⟨v12, hv12, hf⟩ := b_lt hf
          refine x_iinc hP (v := v12) (ls2 := [some (.ref 67), some (.int l1), some (.int v12)]) dX12_named_49 rfl (by rw [hv12]; rfl) rfl rfl ?_
          refine x_goto hP dX12_named_52 (tgt := 12) (by decide) ?_
          refine x_drop hP [some (.ref 67), some (.int l1), some (.int v12)] (And.intro rfl (And.intro rfl (And.intro rfl trivial))) ?_
          exact ih _ _ _ _ hf hx
        · replace hf := p_t c8 hf
          refine x_aload_n hP dX12_named_43 rfl ?_
          refine x_iconst hP dX12_named_44 (v := 3) rfl ?_
          refine x_iload_n hP dX12_named_45 rfl ?_
          obtain ⟨M10, hc9, hf⟩ := b_bd hf
          refine y_cvv hP oX12_wrong lX12_308 [.int (3 : Int32), .int l1] [] rfl rfl rfl lay67 dX12_named_46 (t_X12_wrong (d := d - 1) (by omega) hc9) (by omega) ?_
          obtain ⟨v11, hv11, hf⟩ := b_lt hf
          refine x_iinc hP (v := v11) (ls2 := [some (.ref 67), some (.int l1), some (.int v11)]) dX12_named_49 rfl (by rw [hv11]; rfl) rfl rfl ?_
          refine x_goto hP dX12_named_52 (tgt := 12) (by decide) ?_
          refine x_drop hP [some (.ref 67), some (.int l1), some (.int v11)] (And.intro rfl (And.intro rfl (And.intro rfl trivial))) ?_
          exact ih _ _ _ _ hf hx
set_option maxHeartbeats 1000000 in
set_option maxRecDepth 20000 in
theorem t_X12_named {g : GG} {d : Nat} (hd : 4 ≤ d) {M : Mem} {r : Int32} {M' : Mem} (hf : f_X12_named M = some (r, M')) : ExM g d iX12_named [.ref 67] LAY M (some (.int r), LAY, M') := by
  have hd1 : 1 ≤ d := by omega
  refine ExM.main pnX12 rfl (ls := [some (.ref 67), none, none]) rfl ?_
  intro P hP
  rw [f_X12_named] at hf
  refine x_aload_n hP dX12_named_0 rfl ?_
  refine x_getI hP fX12_224 lay67 dX12_named_1 ?_
  obtain ⟨v1, hv1, hf⟩ := b_lt hf
  refine y_nmI hv1 ?_
  refine x_istore_n hP (ls2 := [some (.ref 67), some (.int v1), none]) dX12_named_4 rfl rfl rfl ?_
  refine x_aload_n hP dX12_named_5 rfl ?_
  refine x_iconst hP dX12_named_6 (v := 1) rfl ?_
  obtain ⟨M3, hc2, hf⟩ := b_bd hf
  refine y_cvv hP oX12_must lX12_279 [.int (1 : Int32)] [] rfl rfl rfl lay67 dX12_named_7 (t_X12_must (d := d - 1) (by omega) hc2) (by omega) ?_
  refine x_iconst hP dX12_named_10 (v := 0) rfl ?_
  refine x_istore_n hP (ls2 := [some (.ref 67), some (.int v1), some (.int (0 : Int32))]) dX12_named_11 rfl rfl rfl ?_
  refine x_drop hP [some (.ref 67), some (.int v1), some (.int (0 : Int32))] (And.intro rfl (And.intro rfl (And.intro rfl trivial))) ?_
  obtain ⟨t13, hl14, hf⟩ := b_bd hf
  refine t_X12_named_L12 hd hP _ _ _ _ _ hl14 ?_
  refine x_iload_n hP dX12_named_55 rfl ?_
  cases hf
  exact x_iret hP rfl dX12_named_56
def f_X12_endsName (x1 : Int32) (x2 : Int32) (M : Mem) : Option (Mem) :=
  (f_X12_must (4 : Int32) M).bind fun M2 =>
  if M2.1 67 13 ≤ 0 then
    (aj M2 73 403 x1).bind fun v4 =>
    (pj M2 75 18 (M2.1 67 20) v4).bind fun M5 =>
    (pg M5 76 18 (M5.1 67 20) x2).bind fun M6 =>
    lt (sI M6 67 20 ((M6.1 67 20) + (1 : Int32))) fun M7 =>
    some M7
  else
    some M2
set_option maxHeartbeats 1000000 in
set_option maxRecDepth 20000 in
theorem t_X12_endsName {g : GG} {d : Nat} (hd : 4 ≤ d) {x1 : Int32} {x2 : Int32} {M : Mem} {M' : Mem} (hf : f_X12_endsName x1 x2 M = some M') : ExM g d iX12_endsName [.ref 67, .int x1, .int x2] LAY M (none, LAY, M') := by
  have hd1 : 1 ≤ d := by omega
  refine ExM.main pnX12 rfl (ls := [some (.ref 67), some (.int x1), some (.int x2)]) rfl ?_
  intro P hP
  rw [f_X12_endsName] at hf
  refine x_aload_n hP dX12_endsName_0 rfl ?_
  refine x_iconst hP dX12_endsName_1 (v := 4) rfl ?_
  obtain ⟨M2, hc1, hf⟩ := b_bd hf
  refine y_cvv hP oX12_must lX12_279 [.int (4 : Int32)] [] rfl rfl rfl lay67 dX12_endsName_2 (t_X12_must (d := d - 1) (by omega) hc1) (by omega) ?_
  refine x_aload_n hP dX12_endsName_5 rfl ?_
  refine x_getI hP fX12_221 lay67 dX12_endsName_6 ?_
  refine x_if_le hP dX12_endsName_9 (tgt := 13) (by decide) (fun c3 => ?_) (fun c3 => ?_)
  · replace hf := p_t c3 hf
    refine x_aload_n hP dX12_endsName_13 rfl ?_
    refine x_getA hP fX12_40 lay67 (r := 75) rfl dX12_endsName_14 ?_
    refine x_aload_n hP dX12_endsName_17 rfl ?_
    refine x_getI hP fX12_257 lay67 dX12_endsName_18 ?_
    refine x_aload_n hP dX12_endsName_21 rfl ?_
    refine x_getA hP fX12_30 lay67 (r := 73) rfl dX12_endsName_22 ?_
    refine x_iload_n hP dX12_endsName_25 rfl ?_
    obtain ⟨v4, hiv4, hv4, hf⟩ := b_aj hf
    refine y_lld hP lay73 hiv4 hv4 dX12_endsName_26 ?_
    obtain ⟨M5, hiM5, hM5, hf⟩ := b_pj hf
    refine y_lst hP lay75 hiM5 hM5 dX12_endsName_27 ?_
    refine x_aload_n hP dX12_endsName_28 rfl ?_
    refine x_getA hP fX12_43 lay67 (r := 76) rfl dX12_endsName_29 ?_
    refine x_aload_n hP dX12_endsName_32 rfl ?_
    refine x_getI hP fX12_257 lay67 dX12_endsName_33 ?_
    refine x_iload_n hP dX12_endsName_36 rfl ?_
    obtain ⟨M6, hiM6, hM6, hf⟩ := b_pg hf
    refine y_ast hP lay76 hiM6 hM6 dX12_endsName_37 ?_
    refine x_aload_n hP dX12_endsName_38 rfl ?_
    refine x_dup hP dX12_endsName_39 rfl ?_
    refine x_getI hP fX12_257 lay67 dX12_endsName_40 ?_
    refine x_iconst hP dX12_endsName_43 (v := 1) rfl ?_
    refine x_iadd hP dX12_endsName_44 ?_
    obtain ⟨M7, hM7, hf⟩ := b_lt hf
    refine y_putI hP fX12_257 lay67 hM7 dX12_endsName_45 ?_
    cases hf
    exact x_vret hP rfl dX12_endsName_48
  · replace hf := p_f c3 hf
    cases hf
    exact x_vret hP rfl dX12_endsName_12
def f_X12_known_L21 (k : Unit → Option (Int32 × Mem)) : Nat → Int32 → Int32 → Mem → Option (Int32 × Mem)
  | 0, _, _, _ => none
  | fu + 1, l1, l2, M =>
    if M.1 67 20 ≤ l2 then
      k ()
    else
      (aj M 75 18 l2).bind fun v6 =>
      (aj M 73 403 l1).bind fun v7 =>
      if lg_cmp v6 v7 = 0 then
        (ag M 76 18 l2).bind fun v9 =>
        if (10 : Int32) ≤ v9 then
          lt (l2 + 1 : Int32) fun v11 =>
          f_X12_known_L21 k fu l1 v11 M
        else
          (ag M 76 18 l2).bind fun v12 =>
          some (v12, M)
      else
        lt (l2 + 1 : Int32) fun v13 =>
        f_X12_known_L21 k fu l1 v13 M
def f_X12_known (M : Mem) : Option (Int32 × Mem) :=
  lt (M.1 67 11 : Int32) fun v1 =>
  (f_X12_must (1 : Int32) M).bind fun M3 =>
  if M3.1 67 13 ≤ 0 then
    f_X12_known_L21 (fun t14 =>
        (f_X12_wrong (4 : Int32) v1 M3).bind fun M16 =>
        some ((-1 : Int32), M16)
      ) FU v1 (0 : Int32) M3
  else
    some ((-1 : Int32), M3)
set_option maxHeartbeats 1000000 in
set_option maxRecDepth 20000 in
theorem t_X12_known_L21 {g : GG} {d : Nat} {P : PT} {M : Mem} {r : Int32} {M' : Mem} (hd : 4 ≤ d)  {l1 : Int32} (hP : IsM g iX12_known d (some (some (.int r), LAY, M')) P) {k : Unit → Option (Int32 × Mem)} (hk : ∀ t : Unit, k t = some (r, M') → P 69 [some (.ref 67), some (.int l1), none] [] LAY M) : ∀ (fu : Nat) (l2 : Int32), f_X12_known_L21 k fu l1 l2 M = some (r, M') → P 21 [some (.ref 67), some (.int l1), some (.int l2)] [] LAY M := by
  have hd1 : 1 ≤ d := by omega
  intro fu
  induction fu with
  | zero => intro l2 hf; simp [f_X12_known_L21] at hf
  | succ fu ih =>
    intro l2 hf
    rw [f_X12_known_L21] at hf
    refine x_iload_n hP dX12_known_21 rfl ?_
    refine x_aload_n hP dX12_known_22 rfl ?_
    refine x_getI hP fX12_257 lay67 dX12_known_23 ?_
    refine x_icmp_ge hP dX12_known_26 (tgt := 69) (by decide) (fun c5 => ?_) (fun c5 => ?_)
    · replace hf := p_t c5 hf
      refine x_drop hP [some (.ref 67), some (.int l1), none] (And.intro rfl (And.intro rfl trivial)) ?_
      exact hk _ hf
    · replace hf := p_f c5 hf
      refine x_aload_n hP dX12_known_29 rfl ?_
      refine x_getA hP fX12_40 lay67 (r := 75) rfl dX12_known_30 ?_
      refine x_iload_n hP dX12_known_33 rfl ?_
      obtain ⟨v6, hiv6, hv6, hf⟩ := b_aj hf
      refine y_lld hP lay75 hiv6 hv6 dX12_known_34 ?_
      refine x_aload_n hP dX12_known_35 rfl ?_
      refine x_getA hP fX12_30 lay67 (r := 73) rfl dX12_known_36 ?_
      refine x_iload_n hP dX12_known_39 rfl ?_
      obtain ⟨v7, hiv7, hv7, hf⟩ := b_aj hf
      refine y_lld hP lay73 hiv7 hv7 dX12_known_40 ?_
      refine x_lcmp hP dX12_known_41 ?_
      refine x_if_ne hP dX12_known_42 (tgt := 63) (by decide) (fun c8 => ?_) (fun c8 => ?_)
      · replace hf := p_f c8 hf
        obtain ⟨v13, hv13, hf⟩ := b_lt hf
        refine x_iinc hP (v := v13) (ls2 := [some (.ref 67), some (.int l1), some (.int v13)]) dX12_known_63 rfl (by rw [hv13]; rfl) rfl rfl ?_
        refine x_goto hP dX12_known_66 (tgt := 21) (by decide) ?_
        refine x_drop hP [some (.ref 67), some (.int l1), some (.int v13)] (And.intro rfl (And.intro rfl (And.intro rfl trivial))) ?_
        exact ih _ hf
      · replace hf := p_t c8 hf
        refine x_aload_n hP dX12_known_45 rfl ?_
        refine x_getA hP fX12_43 lay67 (r := 76) rfl dX12_known_46 ?_
        refine x_iload_n hP dX12_known_49 rfl ?_
        obtain ⟨v9, hiv9, hv9, hf⟩ := b_ag hf
        refine y_ald hP lay76 hiv9 hv9 dX12_known_50 ?_
        refine x_bipush hP dX12_known_51 (v := 10) rfl ?_
        refine x_icmp_ge hP dX12_known_53 (tgt := 63) (by decide) (fun c10 => ?_) (fun c10 => ?_)
        · replace hf := p_t c10 hf
          obtain ⟨v11, hv11, hf⟩ := b_lt hf
          refine x_iinc hP (v := v11) (ls2 := [some (.ref 67), some (.int l1), some (.int v11)]) dX12_known_63 rfl (by rw [hv11]; rfl) rfl rfl ?_
          refine x_goto hP dX12_known_66 (tgt := 21) (by decide) ?_
          refine x_drop hP [some (.ref 67), some (.int l1), some (.int v11)] (And.intro rfl (And.intro rfl (And.intro rfl trivial))) ?_
          exact ih _ hf
        · replace hf := p_f c10 hf
          refine x_aload_n hP dX12_known_56 rfl ?_
          refine x_getA hP fX12_43 lay67 (r := 76) rfl dX12_known_57 ?_
          refine x_iload_n hP dX12_known_60 rfl ?_
          obtain ⟨v12, hiv12, hv12, hf⟩ := b_ag hf
          refine y_ald hP lay76 hiv12 hv12 dX12_known_61 ?_
          cases hf
          exact x_iret hP rfl dX12_known_62
set_option maxHeartbeats 1000000 in
set_option maxRecDepth 20000 in
theorem t_X12_known {g : GG} {d : Nat} (hd : 4 ≤ d) {M : Mem} {r : Int32} {M' : Mem} (hf : f_X12_known M = some (r, M')) : ExM g d iX12_known [.ref 67] LAY M (some (.int r), LAY, M') := by
  have hd1 : 1 ≤ d := by omega
  refine ExM.main pnX12 rfl (ls := [some (.ref 67), none, none]) rfl ?_
  intro P hP
  rw [f_X12_known] at hf
  refine x_aload_n hP dX12_known_0 rfl ?_
  refine x_getI hP fX12_224 lay67 dX12_known_1 ?_
  obtain ⟨v1, hv1, hf⟩ := b_lt hf
  refine y_nmI hv1 ?_
  refine x_istore_n hP (ls2 := [some (.ref 67), some (.int v1), none]) dX12_known_4 rfl rfl rfl ?_
  refine x_aload_n hP dX12_known_5 rfl ?_
  refine x_iconst hP dX12_known_6 (v := 1) rfl ?_
  obtain ⟨M3, hc2, hf⟩ := b_bd hf
  refine y_cvv hP oX12_must lX12_279 [.int (1 : Int32)] [] rfl rfl rfl lay67 dX12_known_7 (t_X12_must (d := d - 1) (by omega) hc2) (by omega) ?_
  refine x_aload_n hP dX12_known_10 rfl ?_
  refine x_getI hP fX12_221 lay67 dX12_known_11 ?_
  refine x_if_le hP dX12_known_14 (tgt := 19) (by decide) (fun c4 => ?_) (fun c4 => ?_)
  · replace hf := p_t c4 hf
    refine x_iconst hP dX12_known_19 (v := 0) rfl ?_
    refine x_istore_n hP (ls2 := [some (.ref 67), some (.int v1), some (.int (0 : Int32))]) dX12_known_20 rfl rfl rfl ?_
    refine x_drop hP [some (.ref 67), some (.int v1), some (.int (0 : Int32))] (And.intro rfl (And.intro rfl (And.intro rfl trivial))) ?_
    refine t_X12_known_L21 hd hP (fun t14 hf => ?_) _ _ hf
    refine x_aload_n hP dX12_known_69 rfl ?_
    refine x_iconst hP dX12_known_70 (v := 4) rfl ?_
    refine x_iload_n hP dX12_known_71 rfl ?_
    obtain ⟨M16, hc15, hf⟩ := b_bd hf
    refine y_cvv hP oX12_wrong lX12_308 [.int (4 : Int32), .int v1] [] rfl rfl rfl lay67 dX12_known_72 (t_X12_wrong (d := d - 1) (by omega) hc15) (by omega) ?_
    refine x_iconst hP dX12_known_75 (v := (-1)) rfl ?_
    cases hf
    exact x_iret hP rfl dX12_known_76
  · replace hf := p_f c4 hf
    refine x_iconst hP dX12_known_17 (v := (-1)) rfl ?_
    cases hf
    exact x_iret hP rfl dX12_known_18
def f_X12_bounded (x1 : Int32) (x2 : Int32) (M : Mem) : Option (Int32 × Mem) :=
  if 0 < M.1 67 13 then
    (f_X12_fail (1 : Int32) M).bind fun M3 =>
    some (x1, M3)
  else
    (f_X12_is (2 : Int32) M).bind fun v5 =>
    if v5 = 0 then
      (f_X12_fail (1 : Int32) M).bind fun M8 =>
      some (x1, M8)
    else
      (ag M 72 403 (M.1 67 11)).bind fun v9 =>
      (
        if v9 < x1 then
          (f_X12_wrong (5 : Int32) (M.1 67 11) M).bind fun M13 =>
          some M13
        else
          if v9 ≤ x2 then
            some M
          else
            (f_X12_wrong (5 : Int32) (M.1 67 11) M).bind fun M16 =>
            some M16
      ).bind fun t10 =>
      (f_X12_goesOn t10).bind fun M18 =>
      some (v9, M18)
set_option maxHeartbeats 1000000 in
set_option maxRecDepth 20000 in
theorem t_X12_bounded {g : GG} {d : Nat} (hd : 3 ≤ d) {x1 : Int32} {x2 : Int32} {M : Mem} {r : Int32} {M' : Mem} (hf : f_X12_bounded x1 x2 M = some (r, M')) : ExM g d iX12_bounded [.ref 67, .int x1, .int x2] LAY M (some (.int r), LAY, M') := by
  have hd1 : 1 ≤ d := by omega
  refine ExM.main pnX12 rfl (ls := [some (.ref 67), some (.int x1), some (.int x2), none]) rfl ?_
  intro P hP
  rw [f_X12_bounded] at hf
  refine x_aload_n hP dX12_bounded_0 rfl ?_
  refine x_getI hP fX12_221 lay67 dX12_bounded_1 ?_
  refine x_if_gt hP dX12_bounded_4 (tgt := 15) (by decide) (fun c1 => ?_) (fun c1 => ?_)
  · replace hf := p_t c1 hf
    refine x_aload_n hP dX12_bounded_15 rfl ?_
    refine x_iconst hP dX12_bounded_16 (v := 1) rfl ?_
    obtain ⟨M3, hc2, hf⟩ := b_bd hf
    refine y_cvv hP oX12_fail lX12_236 [.int (1 : Int32)] [] rfl rfl rfl lay67 dX12_bounded_17 (t_X12_fail (d := d - 1) (by omega) hc2) (by omega) ?_
    refine x_iload_n hP dX12_bounded_20 rfl ?_
    cases hf
    exact x_iret hP rfl dX12_bounded_21
  · replace hf := p_f c1 hf
    refine x_aload_n hP dX12_bounded_7 rfl ?_
    refine x_iconst hP dX12_bounded_8 (v := 2) rfl ?_
    obtain ⟨v5, hc4, hf⟩ := b_bd hf
    refine y_cvi hP oX12_is lX12_239 [.int (2 : Int32)] [] rfl rfl rfl lay67 dX12_bounded_9 (t_X12_is (d := d - 1) (by omega) hc4) (by omega) ?_
    refine x_if_ne hP dX12_bounded_12 (tgt := 22) (by decide) (fun c6 => ?_) (fun c6 => ?_)
    · replace hf := p_f c6 hf
      refine x_aload_n hP dX12_bounded_22 rfl ?_
      refine x_getA hP fX12_27 lay67 (r := 72) rfl dX12_bounded_23 ?_
      refine x_aload_n hP dX12_bounded_26 rfl ?_
      refine x_getI hP fX12_224 lay67 dX12_bounded_27 ?_
      obtain ⟨v9, hiv9, hv9, hf⟩ := b_ag hf
      refine y_ald hP lay72 hiv9 hv9 dX12_bounded_30 ?_
      refine x_istore_n hP (ls2 := [some (.ref 67), some (.int x1), some (.int x2), some (.int v9)]) dX12_bounded_31 rfl rfl rfl ?_
      refine x_iload_n hP dX12_bounded_32 rfl ?_
      refine x_iload_n hP dX12_bounded_33 rfl ?_
      obtain ⟨t10, het10, hf⟩ := b_bd hf
      have hj10 : P 51 [some (.ref 67), none, none, some (.int v9)] [] LAY t10 := by
        refine x_aload_n hP dX12_bounded_51 rfl ?_
        obtain ⟨M18, hc17, hf⟩ := b_bd hf
        refine y_cvv hP oX12_goesOn lX12_242 [] [] rfl rfl rfl lay67 dX12_bounded_52 (t_X12_goesOn (d := d - 1) (by omega) hc17) (by omega) ?_
        refine x_iload_n hP dX12_bounded_55 rfl ?_
        cases hf
        exact x_iret hP rfl dX12_bounded_56
      clear hf
      have hf := het10
      clear het10
      refine x_icmp_lt hP dX12_bounded_34 (tgt := 42) (by decide) (fun c11 => ?_) (fun c11 => ?_)
      · replace hf := p_t c11 hf
        refine x_aload_n hP dX12_bounded_42 rfl ?_
        refine x_iconst hP dX12_bounded_43 (v := 5) rfl ?_
        refine x_aload_n hP dX12_bounded_44 rfl ?_
        refine x_getI hP fX12_224 lay67 dX12_bounded_45 ?_
        obtain ⟨M13, hc12, hf⟩ := b_bd hf
        refine y_cvv hP oX12_wrong lX12_308 [.int (5 : Int32), .int (M.1 67 11)] [] rfl rfl rfl lay67 dX12_bounded_48 (t_X12_wrong (d := d - 1) (by omega) hc12) (by omega) ?_
        refine x_drop hP [some (.ref 67), none, none, some (.int v9)] (And.intro rfl (And.intro rfl trivial)) ?_
        cases hf
        exact hj10
      · replace hf := p_f c11 hf
        refine x_iload_n hP dX12_bounded_37 rfl ?_
        refine x_iload_n hP dX12_bounded_38 rfl ?_
        refine x_icmp_le hP dX12_bounded_39 (tgt := 51) (by decide) (fun c14 => ?_) (fun c14 => ?_)
        · replace hf := p_t c14 hf
          refine x_drop hP [some (.ref 67), none, none, some (.int v9)] (And.intro rfl (And.intro rfl trivial)) ?_
          cases hf
          exact hj10
        · replace hf := p_f c14 hf
          refine x_aload_n hP dX12_bounded_42 rfl ?_
          refine x_iconst hP dX12_bounded_43 (v := 5) rfl ?_
          refine x_aload_n hP dX12_bounded_44 rfl ?_
          refine x_getI hP fX12_224 lay67 dX12_bounded_45 ?_
          obtain ⟨M16, hc15, hf⟩ := b_bd hf
          refine y_cvv hP oX12_wrong lX12_308 [.int (5 : Int32), .int (M.1 67 11)] [] rfl rfl rfl lay67 dX12_bounded_48 (t_X12_wrong (d := d - 1) (by omega) hc15) (by omega) ?_
          refine x_drop hP [some (.ref 67), none, none, some (.int v9)] (And.intro rfl (And.intro rfl trivial)) ?_
          cases hf
          exact hj10
    · replace hf := p_t c6 hf
      refine x_aload_n hP dX12_bounded_15 rfl ?_
      refine x_iconst hP dX12_bounded_16 (v := 1) rfl ?_
      obtain ⟨M8, hc7, hf⟩ := b_bd hf
      refine y_cvv hP oX12_fail lX12_236 [.int (1 : Int32)] [] rfl rfl rfl lay67 dX12_bounded_17 (t_X12_fail (d := d - 1) (by omega) hc7) (by omega) ?_
      refine x_iload_n hP dX12_bounded_20 rfl ?_
      cases hf
      exact x_iret hP rfl dX12_bounded_21
def f_X12_tellStreet (M : Mem) : Option (Mem) :=
  (ag M 78 2 (M.1 67 19)).bind fun v1 =>
  lt (((10 : Int32) * (M.1 67 19)) + v1 : Int32) fun v2 =>
  (f_X12_known M).bind fun t4 =>
  (pg t4.2 79 20 v2 t4.1).bind fun M5 =>
  lt (M5.1 67 11 : Int32) fun v6 =>
  (f_X12_known M5).bind fun t8 =>
  (pg t8.2 80 20 v2 t8.1).bind fun M9 =>
  (
    if M9.1 67 13 = 0 then
      (ag M9 79 20 v2).bind fun v12 =>
      if v12 < 0 then
        some M9
      else
        (ag M9 79 20 v2).bind fun v14 =>
        (ag M9 80 20 v2).bind fun v15 =>
        if v14 = v15 then
          (f_X12_wrong (3 : Int32) v6 M9).bind fun M18 =>
          some M18
        else
          some M9
    else
      some M9
  ).bind fun t10 =>
  (f_X12_bounded (1 : Int32) (99 : Int32) t10).bind fun t20 =>
  (pg t20.2 81 20 v2 t20.1).bind fun M21 =>
  (f_X12_must (4 : Int32) M21).bind fun M23 =>
  if M23.1 67 13 = 0 then
    (ag M23 78 2 (M23.1 67 19)).bind fun v25 =>
    (pg M23 78 2 (M23.1 67 19) (v25 + (1 : Int32))).bind fun M26 =>
    some M26
  else
    some M23
set_option maxHeartbeats 1000000 in
set_option maxRecDepth 20000 in
theorem t_X12_tellStreet {g : GG} {d : Nat} (hd : 5 ≤ d) {M : Mem} {M' : Mem} (hf : f_X12_tellStreet M = some M') : ExM g d iX12_tellStreet [.ref 67] LAY M (none, LAY, M') := by
  have hd1 : 1 ≤ d := by omega
  refine ExM.main pnX12 rfl (ls := [some (.ref 67), none, none]) rfl ?_
  intro P hP
  rw [f_X12_tellStreet] at hf
  refine x_bipush hP dX12_tellStreet_0 (v := 10) rfl ?_
  refine x_aload_n hP dX12_tellStreet_2 rfl ?_
  refine x_getI hP fX12_254 lay67 dX12_tellStreet_3 ?_
  refine x_imul hP dX12_tellStreet_6 ?_
  refine x_aload_n hP dX12_tellStreet_7 rfl ?_
  refine x_getA hP fX12_49 lay67 (r := 78) rfl dX12_tellStreet_8 ?_
  refine x_aload_n hP dX12_tellStreet_11 rfl ?_
  refine x_getI hP fX12_254 lay67 dX12_tellStreet_12 ?_
  obtain ⟨v1, hiv1, hv1, hf⟩ := b_ag hf
  refine y_ald hP lay78 hiv1 hv1 dX12_tellStreet_15 ?_
  refine x_iadd hP dX12_tellStreet_16 ?_
  obtain ⟨v2, hv2, hf⟩ := b_lt hf
  refine y_nmI hv2 ?_
  refine x_istore_n hP (ls2 := [some (.ref 67), some (.int v2), none]) dX12_tellStreet_17 rfl rfl rfl ?_
  refine x_aload_n hP dX12_tellStreet_18 rfl ?_
  refine x_getA hP fX12_52 lay67 (r := 79) rfl dX12_tellStreet_19 ?_
  refine x_iload_n hP dX12_tellStreet_22 rfl ?_
  refine x_aload_n hP dX12_tellStreet_23 rfl ?_
  obtain ⟨t4, hc3, hf⟩ := b_bd hf
  refine y_cvi hP oX12_known lX12_299 [] [.int v2, .ref 79] rfl rfl rfl lay67 dX12_tellStreet_24 (t_X12_known (d := d - 1) (by omega) hc3) (by omega) ?_
  obtain ⟨M5, hiM5, hM5, hf⟩ := b_pg hf
  refine y_ast hP lay79 hiM5 hM5 dX12_tellStreet_27 ?_
  refine x_aload_n hP dX12_tellStreet_28 rfl ?_
  refine x_getI hP fX12_224 lay67 dX12_tellStreet_29 ?_
  obtain ⟨v6, hv6, hf⟩ := b_lt hf
  refine y_nmI hv6 ?_
  refine x_istore_n hP (ls2 := [some (.ref 67), some (.int v2), some (.int v6)]) dX12_tellStreet_32 rfl rfl rfl ?_
  refine x_aload_n hP dX12_tellStreet_33 rfl ?_
  refine x_getA hP fX12_55 lay67 (r := 80) rfl dX12_tellStreet_34 ?_
  refine x_iload_n hP dX12_tellStreet_37 rfl ?_
  refine x_aload_n hP dX12_tellStreet_38 rfl ?_
  obtain ⟨t8, hc7, hf⟩ := b_bd hf
  refine y_cvi hP oX12_known lX12_299 [] [.int v2, .ref 80] rfl rfl rfl lay67 dX12_tellStreet_39 (t_X12_known (d := d - 1) (by omega) hc7) (by omega) ?_
  obtain ⟨M9, hiM9, hM9, hf⟩ := b_pg hf
  refine y_ast hP lay80 hiM9 hM9 dX12_tellStreet_42 ?_
  refine x_aload_n hP dX12_tellStreet_43 rfl ?_
  refine x_getI hP fX12_221 lay67 dX12_tellStreet_44 ?_
  obtain ⟨t10, het10, hf⟩ := b_bd hf
  have hj10 : P 80 [some (.ref 67), some (.int v2), none] [] LAY t10 := by
    refine x_aload_n hP dX12_tellStreet_80 rfl ?_
    refine x_getA hP fX12_58 lay67 (r := 81) rfl dX12_tellStreet_81 ?_
    refine x_iload_n hP dX12_tellStreet_84 rfl ?_
    refine x_aload_n hP dX12_tellStreet_85 rfl ?_
    refine x_iconst hP dX12_tellStreet_86 (v := 1) rfl ?_
    refine x_bipush hP dX12_tellStreet_87 (v := 99) rfl ?_
    obtain ⟨t20, hc19, hf⟩ := b_bd hf
    refine y_cvi hP oX12_bounded lX12_275 [.int (1 : Int32), .int (99 : Int32)] [.int v2, .ref 81] rfl rfl rfl lay67 dX12_tellStreet_89 (t_X12_bounded (d := d - 1) (by omega) hc19) (by omega) ?_
    obtain ⟨M21, hiM21, hM21, hf⟩ := b_pg hf
    refine y_ast hP lay81 hiM21 hM21 dX12_tellStreet_92 ?_
    refine x_aload_n hP dX12_tellStreet_93 rfl ?_
    refine x_iconst hP dX12_tellStreet_94 (v := 4) rfl ?_
    obtain ⟨M23, hc22, hf⟩ := b_bd hf
    refine y_cvv hP oX12_must lX12_279 [.int (4 : Int32)] [] rfl rfl rfl lay67 dX12_tellStreet_95 (t_X12_must (d := d - 1) (by omega) hc22) (by omega) ?_
    refine x_aload_n hP dX12_tellStreet_98 rfl ?_
    refine x_getI hP fX12_221 lay67 dX12_tellStreet_99 ?_
    refine x_if_ne hP dX12_tellStreet_102 (tgt := 118) (by decide) (fun c24 => ?_) (fun c24 => ?_)
    · replace hf := p_f c24 hf
      cases hf
      exact x_vret hP rfl dX12_tellStreet_118
    · replace hf := p_t c24 hf
      refine x_aload_n hP dX12_tellStreet_105 rfl ?_
      refine x_getA hP fX12_49 lay67 (r := 78) rfl dX12_tellStreet_106 ?_
      refine x_aload_n hP dX12_tellStreet_109 rfl ?_
      refine x_getI hP fX12_254 lay67 dX12_tellStreet_110 ?_
      refine x_dup2 hP dX12_tellStreet_113 rfl rfl ?_
      obtain ⟨v25, hiv25, hv25, hf⟩ := b_ag hf
      refine y_ald hP lay78 hiv25 hv25 dX12_tellStreet_114 ?_
      refine x_iconst hP dX12_tellStreet_115 (v := 1) rfl ?_
      refine x_iadd hP dX12_tellStreet_116 ?_
      obtain ⟨M26, hiM26, hM26, hf⟩ := b_pg hf
      refine y_ast hP lay78 hiM26 hM26 dX12_tellStreet_117 ?_
      cases hf
      exact x_vret hP rfl dX12_tellStreet_118
  clear hf
  have hf := het10
  clear het10
  refine x_if_ne hP dX12_tellStreet_47 (tgt := 80) (by decide) (fun c11 => ?_) (fun c11 => ?_)
  · replace hf := p_f c11 hf
    refine x_drop hP [some (.ref 67), some (.int v2), none] (And.intro rfl (And.intro rfl trivial)) ?_
    cases hf
    exact hj10
  · replace hf := p_t c11 hf
    refine x_aload_n hP dX12_tellStreet_50 rfl ?_
    refine x_getA hP fX12_52 lay67 (r := 79) rfl dX12_tellStreet_51 ?_
    refine x_iload_n hP dX12_tellStreet_54 rfl ?_
    obtain ⟨v12, hiv12, hv12, hf⟩ := b_ag hf
    refine y_ald hP lay79 hiv12 hv12 dX12_tellStreet_55 ?_
    refine x_if_lt hP dX12_tellStreet_56 (tgt := 80) (by decide) (fun c13 => ?_) (fun c13 => ?_)
    · replace hf := p_t c13 hf
      refine x_drop hP [some (.ref 67), some (.int v2), none] (And.intro rfl (And.intro rfl trivial)) ?_
      cases hf
      exact hj10
    · replace hf := p_f c13 hf
      refine x_aload_n hP dX12_tellStreet_59 rfl ?_
      refine x_getA hP fX12_52 lay67 (r := 79) rfl dX12_tellStreet_60 ?_
      refine x_iload_n hP dX12_tellStreet_63 rfl ?_
      obtain ⟨v14, hiv14, hv14, hf⟩ := b_ag hf
      refine y_ald hP lay79 hiv14 hv14 dX12_tellStreet_64 ?_
      refine x_aload_n hP dX12_tellStreet_65 rfl ?_
      refine x_getA hP fX12_55 lay67 (r := 80) rfl dX12_tellStreet_66 ?_
      refine x_iload_n hP dX12_tellStreet_69 rfl ?_
      obtain ⟨v15, hiv15, hv15, hf⟩ := b_ag hf
      refine y_ald hP lay80 hiv15 hv15 dX12_tellStreet_70 ?_
      refine x_icmp_ne hP dX12_tellStreet_71 (tgt := 80) (by decide) (fun c16 => ?_) (fun c16 => ?_)
      · replace hf := p_f c16 hf
        refine x_drop hP [some (.ref 67), some (.int v2), none] (And.intro rfl (And.intro rfl trivial)) ?_
        cases hf
        exact hj10
      · replace hf := p_t c16 hf
        refine x_aload_n hP dX12_tellStreet_74 rfl ?_
        refine x_iconst hP dX12_tellStreet_75 (v := 3) rfl ?_
        refine x_iload_n hP dX12_tellStreet_76 rfl ?_
        obtain ⟨M18, hc17, hf⟩ := b_bd hf
        refine y_cvv hP oX12_wrong lX12_308 [.int (3 : Int32), .int v6] [] rfl rfl rfl lay67 dX12_tellStreet_77 (t_X12_wrong (d := d - 1) (by omega) hc17) (by omega) ?_
        refine x_drop hP [some (.ref 67), some (.int v2), none] (And.intro rfl (And.intro rfl trivial)) ?_
        cases hf
        exact hj10
def f_X12_tellYoung (M : Mem) : Option (Mem) :=
  (ag M 82 2 (M.1 67 19)).bind fun v1 =>
  lt (((6 : Int32) * (M.1 67 19)) + v1 : Int32) fun v2 =>
  (f_X12_named M).bind fun t4 =>
  (f_X12_bounded (10 : Int32) (40 : Int32) t4.2).bind fun t6 =>
  (pg t6.2 83 12 v2 t6.1).bind fun M7 =>
  (f_X12_bounded (0 : Int32) (9 : Int32) M7).bind fun t9 =>
  (pg t9.2 84 12 v2 t9.1).bind fun M10 =>
  (f_X12_known M10).bind fun t12 =>
  (pg t12.2 85 12 v2 t12.1).bind fun M13 =>
  (f_X12_endsName t4.1 (10 : Int32) M13).bind fun M15 =>
  if M15.1 67 13 = 0 then
    (ag M15 82 2 (M15.1 67 19)).bind fun v17 =>
    (pg M15 82 2 (M15.1 67 19) (v17 + (1 : Int32))).bind fun M18 =>
    some M18
  else
    some M15
set_option maxHeartbeats 1000000 in
set_option maxRecDepth 20000 in
theorem t_X12_tellYoung {g : GG} {d : Nat} (hd : 5 ≤ d) {M : Mem} {M' : Mem} (hf : f_X12_tellYoung M = some M') : ExM g d iX12_tellYoung [.ref 67] LAY M (none, LAY, M') := by
  have hd1 : 1 ≤ d := by omega
  refine ExM.main pnX12 rfl (ls := [some (.ref 67), none, none]) rfl ?_
  intro P hP
  rw [f_X12_tellYoung] at hf
  refine x_bipush hP dX12_tellYoung_0 (v := 6) rfl ?_
  refine x_aload_n hP dX12_tellYoung_2 rfl ?_
  refine x_getI hP fX12_254 lay67 dX12_tellYoung_3 ?_
  refine x_imul hP dX12_tellYoung_6 ?_
  refine x_aload_n hP dX12_tellYoung_7 rfl ?_
  refine x_getA hP fX12_61 lay67 (r := 82) rfl dX12_tellYoung_8 ?_
  refine x_aload_n hP dX12_tellYoung_11 rfl ?_
  refine x_getI hP fX12_254 lay67 dX12_tellYoung_12 ?_
  obtain ⟨v1, hiv1, hv1, hf⟩ := b_ag hf
  refine y_ald hP lay82 hiv1 hv1 dX12_tellYoung_15 ?_
  refine x_iadd hP dX12_tellYoung_16 ?_
  obtain ⟨v2, hv2, hf⟩ := b_lt hf
  refine y_nmI hv2 ?_
  refine x_istore_n hP (ls2 := [some (.ref 67), some (.int v2), none]) dX12_tellYoung_17 rfl rfl rfl ?_
  refine x_aload_n hP dX12_tellYoung_18 rfl ?_
  obtain ⟨t4, hc3, hf⟩ := b_bd hf
  refine y_cvi hP oX12_named lX12_286 [] [] rfl rfl rfl lay67 dX12_tellYoung_19 (t_X12_named (d := d - 1) (by omega) hc3) (by omega) ?_
  refine x_istore_n hP (ls2 := [some (.ref 67), some (.int v2), some (.int t4.1)]) dX12_tellYoung_22 rfl rfl rfl ?_
  refine x_aload_n hP dX12_tellYoung_23 rfl ?_
  refine x_getA hP fX12_64 lay67 (r := 83) rfl dX12_tellYoung_24 ?_
  refine x_iload_n hP dX12_tellYoung_27 rfl ?_
  refine x_aload_n hP dX12_tellYoung_28 rfl ?_
  refine x_bipush hP dX12_tellYoung_29 (v := 10) rfl ?_
  refine x_bipush hP dX12_tellYoung_31 (v := 40) rfl ?_
  obtain ⟨t6, hc5, hf⟩ := b_bd hf
  refine y_cvi hP oX12_bounded lX12_275 [.int (10 : Int32), .int (40 : Int32)] [.int v2, .ref 83] rfl rfl rfl lay67 dX12_tellYoung_33 (t_X12_bounded (d := d - 1) (by omega) hc5) (by omega) ?_
  obtain ⟨M7, hiM7, hM7, hf⟩ := b_pg hf
  refine y_ast hP lay83 hiM7 hM7 dX12_tellYoung_36 ?_
  refine x_aload_n hP dX12_tellYoung_37 rfl ?_
  refine x_getA hP fX12_67 lay67 (r := 84) rfl dX12_tellYoung_38 ?_
  refine x_iload_n hP dX12_tellYoung_41 rfl ?_
  refine x_aload_n hP dX12_tellYoung_42 rfl ?_
  refine x_iconst hP dX12_tellYoung_43 (v := 0) rfl ?_
  refine x_bipush hP dX12_tellYoung_44 (v := 9) rfl ?_
  obtain ⟨t9, hc8, hf⟩ := b_bd hf
  refine y_cvi hP oX12_bounded lX12_275 [.int (0 : Int32), .int (9 : Int32)] [.int v2, .ref 84] rfl rfl rfl lay67 dX12_tellYoung_46 (t_X12_bounded (d := d - 1) (by omega) hc8) (by omega) ?_
  obtain ⟨M10, hiM10, hM10, hf⟩ := b_pg hf
  refine y_ast hP lay84 hiM10 hM10 dX12_tellYoung_49 ?_
  refine x_aload_n hP dX12_tellYoung_50 rfl ?_
  refine x_getA hP fX12_70 lay67 (r := 85) rfl dX12_tellYoung_51 ?_
  refine x_iload_n hP dX12_tellYoung_54 rfl ?_
  refine x_aload_n hP dX12_tellYoung_55 rfl ?_
  obtain ⟨t12, hc11, hf⟩ := b_bd hf
  refine y_cvi hP oX12_known lX12_299 [] [.int v2, .ref 85] rfl rfl rfl lay67 dX12_tellYoung_56 (t_X12_known (d := d - 1) (by omega) hc11) (by omega) ?_
  obtain ⟨M13, hiM13, hM13, hf⟩ := b_pg hf
  refine y_ast hP lay85 hiM13 hM13 dX12_tellYoung_59 ?_
  refine x_aload_n hP dX12_tellYoung_60 rfl ?_
  refine x_iload_n hP dX12_tellYoung_61 rfl ?_
  refine x_bipush hP dX12_tellYoung_62 (v := 10) rfl ?_
  obtain ⟨M15, hc14, hf⟩ := b_bd hf
  refine y_cvv hP oX12_endsName lX12_290 [.int t4.1, .int (10 : Int32)] [] rfl rfl rfl lay67 dX12_tellYoung_64 (t_X12_endsName (d := d - 1) (by omega) hc14) (by omega) ?_
  refine x_aload_n hP dX12_tellYoung_67 rfl ?_
  refine x_getI hP fX12_221 lay67 dX12_tellYoung_68 ?_
  refine x_if_ne hP dX12_tellYoung_71 (tgt := 87) (by decide) (fun c16 => ?_) (fun c16 => ?_)
  · replace hf := p_f c16 hf
    cases hf
    exact x_vret hP rfl dX12_tellYoung_87
  · replace hf := p_t c16 hf
    refine x_aload_n hP dX12_tellYoung_74 rfl ?_
    refine x_getA hP fX12_61 lay67 (r := 82) rfl dX12_tellYoung_75 ?_
    refine x_aload_n hP dX12_tellYoung_78 rfl ?_
    refine x_getI hP fX12_254 lay67 dX12_tellYoung_79 ?_
    refine x_dup2 hP dX12_tellYoung_82 rfl rfl ?_
    obtain ⟨v17, hiv17, hv17, hf⟩ := b_ag hf
    refine y_ald hP lay82 hiv17 hv17 dX12_tellYoung_83 ?_
    refine x_iconst hP dX12_tellYoung_84 (v := 1) rfl ?_
    refine x_iadd hP dX12_tellYoung_85 ?_
    obtain ⟨M18, hiM18, hM18, hf⟩ := b_pg hf
    refine y_ast hP lay82 hiM18 hM18 dX12_tellYoung_86 ?_
    cases hf
    exact x_vret hP rfl dX12_tellYoung_87
def f_X12_toldInt (x1 : Int32) (M : Mem) : Option (Int32 × Mem) :=
  (f_X12_goesOn M).bind fun M2 =>
  (f_X12_bounded (0 : Int32) x1 M2).bind fun t4 =>
  (f_X12_must (4 : Int32) t4.2).bind fun M6 =>
  some (t4.1, M6)
set_option maxHeartbeats 1000000 in
set_option maxRecDepth 20000 in
theorem t_X12_toldInt {g : GG} {d : Nat} (hd : 4 ≤ d) {x1 : Int32} {M : Mem} {r : Int32} {M' : Mem} (hf : f_X12_toldInt x1 M = some (r, M')) : ExM g d iX12_toldInt [.ref 67, .int x1] LAY M (some (.int r), LAY, M') := by
  have hd1 : 1 ≤ d := by omega
  refine ExM.main pnX12 rfl (ls := [some (.ref 67), some (.int x1), none]) rfl ?_
  intro P hP
  rw [f_X12_toldInt] at hf
  refine x_aload_n hP dX12_toldInt_0 rfl ?_
  obtain ⟨M2, hc1, hf⟩ := b_bd hf
  refine y_cvv hP oX12_goesOn lX12_242 [] [] rfl rfl rfl lay67 dX12_toldInt_1 (t_X12_goesOn (d := d - 1) (by omega) hc1) (by omega) ?_
  refine x_aload_n hP dX12_toldInt_4 rfl ?_
  refine x_iconst hP dX12_toldInt_5 (v := 0) rfl ?_
  refine x_iload_n hP dX12_toldInt_6 rfl ?_
  obtain ⟨t4, hc3, hf⟩ := b_bd hf
  refine y_cvi hP oX12_bounded lX12_275 [.int (0 : Int32), .int x1] [] rfl rfl rfl lay67 dX12_toldInt_7 (t_X12_bounded (d := d - 1) (by omega) hc3) (by omega) ?_
  refine x_istore_n hP (ls2 := [some (.ref 67), some (.int x1), some (.int t4.1)]) dX12_toldInt_10 rfl rfl rfl ?_
  refine x_aload_n hP dX12_toldInt_11 rfl ?_
  refine x_iconst hP dX12_toldInt_12 (v := 4) rfl ?_
  obtain ⟨M6, hc5, hf⟩ := b_bd hf
  refine y_cvv hP oX12_must lX12_279 [.int (4 : Int32)] [] rfl rfl rfl lay67 dX12_toldInt_13 (t_X12_must (d := d - 1) (by omega) hc5) (by omega) ?_
  refine x_iload_n hP dX12_toldInt_16 rfl ?_
  cases hf
  exact x_iret hP rfl dX12_toldInt_17
def f_X12_emit (x1 : Int32) (x2 : Int32) (M : Mem) : Option (Mem) :=
  (pg M 98 840 (M.1 67 45) x1).bind fun M1 =>
  (pg M1 99 840 (M1.1 67 45) x2).bind fun M2 =>
  lt (sI M2 67 45 ((M2.1 67 45) + (1 : Int32))) fun M3 =>
  some M3
set_option maxHeartbeats 1000000 in
set_option maxRecDepth 20000 in
theorem t_X12_emit {g : GG} {d : Nat} (hd : 1 ≤ d) {x1 : Int32} {x2 : Int32} {M : Mem} {M' : Mem} (hf : f_X12_emit x1 x2 M = some M') : ExM g d iX12_emit [.ref 67, .int x1, .int x2] LAY M (none, LAY, M') := by
  have hd1 : 1 ≤ d := by omega
  refine ExM.main pnX12 rfl (ls := [some (.ref 67), some (.int x1), some (.int x2)]) rfl ?_
  intro P hP
  rw [f_X12_emit] at hf
  refine x_aload_n hP dX12_emit_0 rfl ?_
  refine x_getA hP fX12_110 lay67 (r := 98) rfl dX12_emit_1 ?_
  refine x_aload_n hP dX12_emit_4 rfl ?_
  refine x_getI hP fX12_263 lay67 dX12_emit_5 ?_
  refine x_iload_n hP dX12_emit_8 rfl ?_
  obtain ⟨M1, hiM1, hM1, hf⟩ := b_pg hf
  refine y_ast hP lay98 hiM1 hM1 dX12_emit_9 ?_
  refine x_aload_n hP dX12_emit_10 rfl ?_
  refine x_getA hP fX12_113 lay67 (r := 99) rfl dX12_emit_11 ?_
  refine x_aload_n hP dX12_emit_14 rfl ?_
  refine x_getI hP fX12_263 lay67 dX12_emit_15 ?_
  refine x_iload_n hP dX12_emit_18 rfl ?_
  obtain ⟨M2, hiM2, hM2, hf⟩ := b_pg hf
  refine y_ast hP lay99 hiM2 hM2 dX12_emit_19 ?_
  refine x_aload_n hP dX12_emit_20 rfl ?_
  refine x_dup hP dX12_emit_21 rfl ?_
  refine x_getI hP fX12_263 lay67 dX12_emit_22 ?_
  refine x_iconst hP dX12_emit_25 (v := 1) rfl ?_
  refine x_iadd hP dX12_emit_26 ?_
  obtain ⟨M3, hM3, hf⟩ := b_lt hf
  refine y_putI hP fX12_263 lay67 hM3 dX12_emit_27 ?_
  cases hf
  exact x_vret hP rfl dX12_emit_30
def f_X12_unit (M : Mem) : Option (Mem) :=
  (f_X12_is (2 : Int32) M).bind fun v2 =>
  if v2 = 0 then
    if M.1 67 13 = 0 then
      (ag M 70 403 (M.1 67 11)).bind fun v5 =>
      if v5 < (34 : Int32) then
        (f_X12_fail (1 : Int32) M).bind fun M8 =>
        some M8
      else
        (ag M 70 403 (M.1 67 11)).bind fun v9 =>
        if (42 : Int32) < v9 then
          (f_X12_fail (1 : Int32) M).bind fun M12 =>
          some M12
        else
          (ag M 70 403 (M.1 67 11)).bind fun v13 =>
          (f_X12_emit (1 : Int32) (v13 - (34 : Int32)) M).bind fun M15 =>
          (f_X12_goesOn M15).bind fun M17 =>
          some M17
    else
      (f_X12_fail (1 : Int32) M).bind fun M19 =>
      some M19
  else
    (ag M 72 403 (M.1 67 11)).bind fun v20 =>
    (f_X12_emit (0 : Int32) v20 M).bind fun M22 =>
    (f_X12_goesOn M22).bind fun M24 =>
    some M24
set_option maxHeartbeats 1000000 in
set_option maxRecDepth 20000 in
theorem t_X12_unit {g : GG} {d : Nat} (hd : 3 ≤ d) {M : Mem} {M' : Mem} (hf : f_X12_unit M = some M') : ExM g d iX12_unit [.ref 67] LAY M (none, LAY, M') := by
  have hd1 : 1 ≤ d := by omega
  refine ExM.main pnX12 rfl (ls := [some (.ref 67)]) rfl ?_
  intro P hP
  rw [f_X12_unit] at hf
  refine x_aload_n hP dX12_unit_0 rfl ?_
  refine x_iconst hP dX12_unit_1 (v := 2) rfl ?_
  obtain ⟨v2, hc1, hf⟩ := b_bd hf
  refine y_cvi hP oX12_is lX12_239 [.int (2 : Int32)] [] rfl rfl rfl lay67 dX12_unit_2 (t_X12_is (d := d - 1) (by omega) hc1) (by omega) ?_
  refine x_if_eq hP dX12_unit_5 (tgt := 29) (by decide) (fun c3 => ?_) (fun c3 => ?_)
  · replace hf := p_t c3 hf
    refine x_aload_n hP dX12_unit_29 rfl ?_
    refine x_getI hP fX12_221 lay67 dX12_unit_30 ?_
    refine x_if_ne hP dX12_unit_33 (tgt := 88) (by decide) (fun c4 => ?_) (fun c4 => ?_)
    · replace hf := p_f c4 hf
      refine x_aload_n hP dX12_unit_88 rfl ?_
      refine x_iconst hP dX12_unit_89 (v := 1) rfl ?_
      obtain ⟨M19, hc18, hf⟩ := b_bd hf
      refine y_cvv hP oX12_fail lX12_236 [.int (1 : Int32)] [] rfl rfl rfl lay67 dX12_unit_90 (t_X12_fail (d := d - 1) (by omega) hc18) (by omega) ?_
      cases hf
      exact x_vret hP rfl dX12_unit_93
    · replace hf := p_t c4 hf
      refine x_aload_n hP dX12_unit_36 rfl ?_
      refine x_getA hP fX12_20 lay67 (r := 70) rfl dX12_unit_37 ?_
      refine x_aload_n hP dX12_unit_40 rfl ?_
      refine x_getI hP fX12_224 lay67 dX12_unit_41 ?_
      obtain ⟨v5, hiv5, hv5, hf⟩ := b_ag hf
      refine y_ald hP lay70 hiv5 hv5 dX12_unit_44 ?_
      refine x_bipush hP dX12_unit_45 (v := 34) rfl ?_
      refine x_icmp_lt hP dX12_unit_47 (tgt := 88) (by decide) (fun c6 => ?_) (fun c6 => ?_)
      · replace hf := p_t c6 hf
        refine x_aload_n hP dX12_unit_88 rfl ?_
        refine x_iconst hP dX12_unit_89 (v := 1) rfl ?_
        obtain ⟨M8, hc7, hf⟩ := b_bd hf
        refine y_cvv hP oX12_fail lX12_236 [.int (1 : Int32)] [] rfl rfl rfl lay67 dX12_unit_90 (t_X12_fail (d := d - 1) (by omega) hc7) (by omega) ?_
        cases hf
        exact x_vret hP rfl dX12_unit_93
      · replace hf := p_f c6 hf
        refine x_aload_n hP dX12_unit_50 rfl ?_
        refine x_getA hP fX12_20 lay67 (r := 70) rfl dX12_unit_51 ?_
        refine x_aload_n hP dX12_unit_54 rfl ?_
        refine x_getI hP fX12_224 lay67 dX12_unit_55 ?_
        obtain ⟨v9, hiv9, hv9, hf⟩ := b_ag hf
        refine y_ald hP lay70 hiv9 hv9 dX12_unit_58 ?_
        refine x_bipush hP dX12_unit_59 (v := 42) rfl ?_
        refine x_icmp_gt hP dX12_unit_61 (tgt := 88) (by decide) (fun c10 => ?_) (fun c10 => ?_)
        · replace hf := p_t c10 hf
          refine x_aload_n hP dX12_unit_88 rfl ?_
          refine x_iconst hP dX12_unit_89 (v := 1) rfl ?_
          obtain ⟨M12, hc11, hf⟩ := b_bd hf
          refine y_cvv hP oX12_fail lX12_236 [.int (1 : Int32)] [] rfl rfl rfl lay67 dX12_unit_90 (t_X12_fail (d := d - 1) (by omega) hc11) (by omega) ?_
          cases hf
          exact x_vret hP rfl dX12_unit_93
        · replace hf := p_f c10 hf
          refine x_aload_n hP dX12_unit_64 rfl ?_
          refine x_iconst hP dX12_unit_65 (v := 1) rfl ?_
          refine x_aload_n hP dX12_unit_66 rfl ?_
          refine x_getA hP fX12_20 lay67 (r := 70) rfl dX12_unit_67 ?_
          refine x_aload_n hP dX12_unit_70 rfl ?_
          refine x_getI hP fX12_224 lay67 dX12_unit_71 ?_
          obtain ⟨v13, hiv13, hv13, hf⟩ := b_ag hf
          refine y_ald hP lay70 hiv13 hv13 dX12_unit_74 ?_
          refine x_bipush hP dX12_unit_75 (v := 34) rfl ?_
          refine x_isub hP dX12_unit_77 ?_
          obtain ⟨M15, hc14, hf⟩ := b_bd hf
          refine y_cvv hP oX12_emit lX12_320 [.int (1 : Int32), .int (v13 - (34 : Int32))] [] rfl rfl rfl lay67 dX12_unit_78 (t_X12_emit (d := d - 1) (by omega) hc14) (by omega) ?_
          refine x_aload_n hP dX12_unit_81 rfl ?_
          obtain ⟨M17, hc16, hf⟩ := b_bd hf
          refine y_cvv hP oX12_goesOn lX12_242 [] [] rfl rfl rfl lay67 dX12_unit_82 (t_X12_goesOn (d := d - 1) (by omega) hc16) (by omega) ?_
          refine x_goto hP dX12_unit_85 (tgt := 93) (by decide) ?_
          cases hf
          exact x_vret hP rfl dX12_unit_93
  · replace hf := p_f c3 hf
    refine x_aload_n hP dX12_unit_8 rfl ?_
    refine x_iconst hP dX12_unit_9 (v := 0) rfl ?_
    refine x_aload_n hP dX12_unit_10 rfl ?_
    refine x_getA hP fX12_27 lay67 (r := 72) rfl dX12_unit_11 ?_
    refine x_aload_n hP dX12_unit_14 rfl ?_
    refine x_getI hP fX12_224 lay67 dX12_unit_15 ?_
    obtain ⟨v20, hiv20, hv20, hf⟩ := b_ag hf
    refine y_ald hP lay72 hiv20 hv20 dX12_unit_18 ?_
    obtain ⟨M22, hc21, hf⟩ := b_bd hf
    refine y_cvv hP oX12_emit lX12_320 [.int (0 : Int32), .int v20] [] rfl rfl rfl lay67 dX12_unit_19 (t_X12_emit (d := d - 1) (by omega) hc21) (by omega) ?_
    refine x_aload_n hP dX12_unit_22 rfl ?_
    obtain ⟨M24, hc23, hf⟩ := b_bd hf
    refine y_cvv hP oX12_goesOn lX12_242 [] [] rfl rfl rfl lay67 dX12_unit_23 (t_X12_goesOn (d := d - 1) (by omega) hc23) (by omega) ?_
    refine x_goto hP dX12_unit_26 (tgt := 93) (by decide) ?_
    cases hf
    exact x_vret hP rfl dX12_unit_93
def f_X12_comesOut_L0 (k : Mem → Option (Mem)) : Nat → Int32 → Mem → Option (Mem)
  | 0, _, _ => none
  | fu + 1, l1, M =>
    if M.1 67 49 ≤ 0 then
      k M
    else
      (ag M 100 64 ((M.1 67 49) - (1 : Int32))).bind fun v2 =>
      if v2 = (6 : Int32) then
        some M
      else
        lt (
          lt (sI M 67 49 ((M.1 67 49) - (1 : Int32))) fun M5 =>
          lt (
            if v2 = (8 : Int32) then
              (2 : Int32)
            else
              if v2 = (9 : Int32) then
                (3 : Int32)
              else
                if v2 = (10 : Int32) then
                  (4 : Int32)
                else
                  (5 : Int32)
           : Int32) fun t6 =>
          (f_X12_emit t6 (0 : Int32) M5).bind fun M11 =>
          f_X12_comesOut_L0 k fu l1 M11
          ) fun j4 =>
        if l1 = 0 then
          j4
        else
          if v2 = (8 : Int32) then
            some M
          else
            if v2 = (9 : Int32) then
              some M
            else
              j4
def f_X12_comesOut (x1 : Int32) (M : Mem) : Option (Mem) :=
  f_X12_comesOut_L0 (fun t15 =>
      some t15
    ) FU x1 M
set_option maxHeartbeats 1000000 in
set_option maxRecDepth 20000 in
theorem t_X12_comesOut_L0 {g : GG} {d : Nat} {P : PT} {M' : Mem} (hd : 2 ≤ d)  {l1 : Int32} (hP : IsM g iX12_comesOut d (some (none, LAY, M')) P) {k : Mem → Option (Mem)} (hk : ∀ t : Mem, k t = some M' → P 91 [none, none, none] [] LAY t) : ∀ (fu : Nat) (M : Mem), f_X12_comesOut_L0 k fu l1 M = some M' → P 0 [some (.ref 67), some (.int l1), none] [] LAY M := by
  have hd1 : 1 ≤ d := by omega
  intro fu
  induction fu with
  | zero => intro M hf; simp [f_X12_comesOut_L0] at hf
  | succ fu ih =>
    intro M hf
    rw [f_X12_comesOut_L0] at hf
    refine x_aload_n hP dX12_comesOut_0 rfl ?_
    refine x_getI hP fX12_317 lay67 dX12_comesOut_1 ?_
    refine x_if_le hP dX12_comesOut_4 (tgt := 91) (by decide) (fun c1 => ?_) (fun c1 => ?_)
    · replace hf := p_t c1 hf
      refine x_drop hP [none, none, none] trivial ?_
      exact hk _ hf
    · replace hf := p_f c1 hf
      refine x_aload_n hP dX12_comesOut_7 rfl ?_
      refine x_getA hP fX12_116 lay67 (r := 100) rfl dX12_comesOut_8 ?_
      refine x_aload_n hP dX12_comesOut_11 rfl ?_
      refine x_getI hP fX12_317 lay67 dX12_comesOut_12 ?_
      refine x_iconst hP dX12_comesOut_15 (v := 1) rfl ?_
      refine x_isub hP dX12_comesOut_16 ?_
      obtain ⟨v2, hiv2, hv2, hf⟩ := b_ag hf
      refine y_ald hP lay100 hiv2 hv2 dX12_comesOut_17 ?_
      refine x_istore_n hP (ls2 := [some (.ref 67), some (.int l1), some (.int v2)]) dX12_comesOut_18 rfl rfl rfl ?_
      refine x_iload_n hP dX12_comesOut_19 rfl ?_
      refine x_bipush hP dX12_comesOut_20 (v := 6) rfl ?_
      refine x_icmp_eq hP dX12_comesOut_22 (tgt := 41) (by decide) (fun c3 => ?_) (fun c3 => ?_)
      · replace hf := p_t c3 hf
        cases hf
        exact x_vret hP rfl dX12_comesOut_41
      · replace hf := p_f c3 hf
        refine x_iload_n hP dX12_comesOut_25 rfl ?_
        obtain ⟨j4, hj4, hf⟩ := b_lt hf
        have hJj4 : j4 = some M' → P 42 [some (.ref 67), some (.int l1), some (.int v2)] [] LAY M := by
          intro hf
          rw [hj4] at hf
          try dsimp only at hf
          refine x_aload_n hP dX12_comesOut_42 rfl ?_
          refine x_dup hP dX12_comesOut_43 rfl ?_
          refine x_getI hP fX12_317 lay67 dX12_comesOut_44 ?_
          refine x_iconst hP dX12_comesOut_47 (v := 1) rfl ?_
          refine x_isub hP dX12_comesOut_48 ?_
          obtain ⟨M5, hM5, hf⟩ := b_lt hf
          refine y_putI hP fX12_317 lay67 hM5 dX12_comesOut_49 ?_
          refine x_aload_n hP dX12_comesOut_52 rfl ?_
          refine x_iload_n hP dX12_comesOut_53 rfl ?_
          refine x_bipush hP dX12_comesOut_54 (v := 8) rfl ?_
          obtain ⟨t6, het6, hf⟩ := b_lt hf
          have hj6 : P 84 [some (.ref 67), some (.int l1), none] [.int t6, .ref 67] LAY M5 := by
            refine x_iconst hP dX12_comesOut_84 (v := 0) rfl ?_
            obtain ⟨M11, hc10, hf⟩ := b_bd hf
            refine y_cvv hP oX12_emit lX12_320 [.int t6, .int (0 : Int32)] [] rfl rfl rfl lay67 dX12_comesOut_85 (t_X12_emit (d := d - 1) (by omega) hc10) (by omega) ?_
            refine x_goto hP dX12_comesOut_88 (tgt := 0) (by decide) ?_
            refine x_drop hP [some (.ref 67), some (.int l1), none] (And.intro rfl (And.intro rfl trivial)) ?_
            exact ih _ hf
          clear hf
          have hf := het6
          clear het6
          refine x_icmp_ne hP dX12_comesOut_56 (tgt := 63) (by decide) (fun c7 => ?_) (fun c7 => ?_)
          · replace hf := e_f c7 hf
            refine x_iload_n hP dX12_comesOut_63 rfl ?_
            refine x_bipush hP dX12_comesOut_64 (v := 9) rfl ?_
            refine x_icmp_ne hP dX12_comesOut_66 (tgt := 73) (by decide) (fun c8 => ?_) (fun c8 => ?_)
            · replace hf := e_f c8 hf
              refine x_iload_n hP dX12_comesOut_73 rfl ?_
              refine x_bipush hP dX12_comesOut_74 (v := 10) rfl ?_
              refine x_icmp_ne hP dX12_comesOut_76 (tgt := 83) (by decide) (fun c9 => ?_) (fun c9 => ?_)
              · replace hf := e_f c9 hf
                refine x_iconst hP dX12_comesOut_83 (v := 5) rfl ?_
                refine x_drop hP [some (.ref 67), some (.int l1), none] (And.intro rfl (And.intro rfl trivial)) ?_
                subst hf
                exact hj6
              · replace hf := e_t c9 hf
                refine x_iconst hP dX12_comesOut_79 (v := 4) rfl ?_
                refine x_goto hP dX12_comesOut_80 (tgt := 84) (by decide) ?_
                refine x_drop hP [some (.ref 67), some (.int l1), none] (And.intro rfl (And.intro rfl trivial)) ?_
                subst hf
                exact hj6
            · replace hf := e_t c8 hf
              refine x_iconst hP dX12_comesOut_69 (v := 3) rfl ?_
              refine x_goto hP dX12_comesOut_70 (tgt := 84) (by decide) ?_
              refine x_drop hP [some (.ref 67), some (.int l1), none] (And.intro rfl (And.intro rfl trivial)) ?_
              subst hf
              exact hj6
          · replace hf := e_t c7 hf
            refine x_iconst hP dX12_comesOut_59 (v := 2) rfl ?_
            refine x_goto hP dX12_comesOut_60 (tgt := 84) (by decide) ?_
            refine x_drop hP [some (.ref 67), some (.int l1), none] (And.intro rfl (And.intro rfl trivial)) ?_
            subst hf
            exact hj6
        clear hj4
        refine x_if_eq hP dX12_comesOut_26 (tgt := 42) (by decide) (fun c12 => ?_) (fun c12 => ?_)
        · replace hf := p_t c12 hf
          refine x_drop hP [some (.ref 67), some (.int l1), some (.int v2)] (And.intro rfl (And.intro rfl (And.intro rfl trivial))) ?_
          exact hJj4  hf
        · replace hf := p_f c12 hf
          refine x_iload_n hP dX12_comesOut_29 rfl ?_
          refine x_bipush hP dX12_comesOut_30 (v := 8) rfl ?_
          refine x_icmp_eq hP dX12_comesOut_32 (tgt := 41) (by decide) (fun c13 => ?_) (fun c13 => ?_)
          · replace hf := p_t c13 hf
            cases hf
            exact x_vret hP rfl dX12_comesOut_41
          · replace hf := p_f c13 hf
            refine x_iload_n hP dX12_comesOut_35 rfl ?_
            refine x_bipush hP dX12_comesOut_36 (v := 9) rfl ?_
            refine x_icmp_ne hP dX12_comesOut_38 (tgt := 42) (by decide) (fun c14 => ?_) (fun c14 => ?_)
            · replace hf := p_f c14 hf
              refine x_drop hP [some (.ref 67), some (.int l1), some (.int v2)] (And.intro rfl (And.intro rfl (And.intro rfl trivial))) ?_
              exact hJj4  hf
            · replace hf := p_t c14 hf
              cases hf
              exact x_vret hP rfl dX12_comesOut_41
set_option maxHeartbeats 1000000 in
set_option maxRecDepth 20000 in
theorem t_X12_comesOut {g : GG} {d : Nat} (hd : 2 ≤ d) {x1 : Int32} {M : Mem} {M' : Mem} (hf : f_X12_comesOut x1 M = some M') : ExM g d iX12_comesOut [.ref 67, .int x1] LAY M (none, LAY, M') := by
  have hd1 : 1 ≤ d := by omega
  refine ExM.main pnX12 rfl (ls := [some (.ref 67), some (.int x1), none]) rfl ?_
  intro P hP
  rw [f_X12_comesOut] at hf
  refine x_drop hP [some (.ref 67), some (.int x1), none] (And.intro rfl (And.intro rfl trivial)) ?_
  refine t_X12_comesOut_L0 hd hP (fun t15 hf => ?_) _ _ hf
  cases hf
  exact x_vret hP rfl dX12_comesOut_91
def f_X12_expression_L23 : Nat → Int32 → Mem → Option (Mem)
  | 0, _, _ => none
  | fu + 1, l1, M =>
    (f_X12_is (6 : Int32) M).bind fun v6 =>
    if v6 = 0 then
      some M
    else
      (
        if M.1 67 12 = (6 : Int32) then
          (f_X12_fail (2 : Int32) M).bind fun M11 =>
          some M11
        else
          some M
      ).bind fun t8 =>
      lt (sI t8 67 12 ((t8.1 67 12) + (1 : Int32))) fun M12 =>
      (f_X12_goesOn M12).bind fun M14 =>
      (pg M14 100 64 (M14.1 67 49) (6 : Int32)).bind fun M15 =>
      lt (sI M15 67 49 ((M15.1 67 49) + (1 : Int32))) fun M16 =>
      f_X12_expression_L23 fu l1 M16
def f_X12_expression_L96 : Nat → Int32 → Mem → Option (Mem)
  | 0, _, _ => none
  | fu + 1, l1, M =>
    (f_X12_is (7 : Int32) M).bind fun v23 =>
    if v23 = 0 then
      some M
    else
      if M.1 67 12 ≤ l1 then
        some M
      else
        (f_X12_comesOut (0 : Int32) M).bind fun M27 =>
        lt (sI M27 67 49 ((M27.1 67 49) - (1 : Int32))) fun M28 =>
        lt (sI M28 67 12 ((M28.1 67 12) - (1 : Int32))) fun M29 =>
        (f_X12_goesOn M29).bind fun M31 =>
        f_X12_expression_L96 fu l1 M31
def f_X12_expression_L12 (k : Mem → Option (Mem)) : Nat → Int32 → Int32 → Mem → Option (Mem)
  | 0, _, _, _ => none
  | fu + 1, l1, l2, M =>
    if l2 = 0 then
      k M
    else
      if M.1 67 13 = 0 then
        (f_X12_expression_L23 FU l1 M).bind fun t17 =>
        (f_X12_unit t17).bind fun M20 =>
        if M20.1 67 13 ≤ 0 then
          (f_X12_expression_L96 FU l1 M20).bind fun t32 =>
          (f_X12_is (8 : Int32) t32).bind fun v35 =>
          (
            if v35 = 0 then
              (f_X12_is (9 : Int32) t32).bind fun v39 =>
              if v39 = 0 then
                (f_X12_is (10 : Int32) t32).bind fun v42 =>
                if v42 = 0 then
                  (f_X12_is (15 : Int32) t32).bind fun v45 =>
                  if v45 = 0 then
                    some (0 : Int32)
                  else
                    some (1 : Int32)
                else
                  some (1 : Int32)
              else
                some (1 : Int32)
            else
              some (1 : Int32)
          ).bind fun t36 =>
          if t36 = 0 then
            (
              if t32.1 67 12 ≤ l1 then
                some t32
              else
                (f_X12_fail (1 : Int32) t32).bind fun M51 =>
                some M51
            ).bind fun t48 =>
            (f_X12_comesOut (0 : Int32) t48).bind fun M53 =>
            some M53
          else
            (f_X12_is (10 : Int32) t32).bind fun v55 =>
            (
              if v55 = 0 then
                (f_X12_is (15 : Int32) t32).bind fun v59 =>
                if v59 = 0 then
                  some (0 : Int32)
                else
                  some (1 : Int32)
              else
                some (1 : Int32)
            ).bind fun t56 =>
            (f_X12_comesOut t56 t32).bind fun M62 =>
            (ag M62 70 403 (M62.1 67 11)).bind fun v63 =>
            (pg M62 100 64 (M62.1 67 49) v63).bind fun M64 =>
            lt (sI M64 67 49 ((M64.1 67 49) + (1 : Int32))) fun M65 =>
            (f_X12_goesOn M65).bind fun M67 =>
            f_X12_expression_L12 k fu l1 t36 M67
        else
          some M20
      else
        k M
def f_X12_expression (M : Mem) : Option (Mem) :=
  lt (sI M 67 49 (0 : Int32)) fun M1 =>
  lt (M1.1 67 12 : Int32) fun v2 =>
  f_X12_expression_L12 (fun t68 =>
      some t68
    ) FU v2 (1 : Int32) M1
set_option maxHeartbeats 1000000 in
set_option maxRecDepth 20000 in
theorem t_X12_expression_L23 {g : GG} {d : Nat} {P : PT} {res : Option RS} (hd : 4 ≤ d)  (hP : IsM g iX12_expression d res P) : ∀ (fu : Nat) (l1 : Int32) (M : Mem) (t : Mem), f_X12_expression_L23 fu l1 M = some t → P 84 [some (.ref 67), some (.int l1), none] [] LAY t → P 23 [some (.ref 67), some (.int l1), none] [] LAY M := by
  have hd1 : 1 ≤ d := by omega
  intro fu
  induction fu with
  | zero => intro l1 M t hf; simp [f_X12_expression_L23] at hf
  | succ fu ih =>
    intro l1 M t hf hx
    rw [f_X12_expression_L23] at hf
    refine x_aload_n hP dX12_expression_23 rfl ?_
    refine x_bipush hP dX12_expression_24 (v := 6) rfl ?_
    obtain ⟨v6, hc5, hf⟩ := b_bd hf
    refine y_cvi hP oX12_is lX12_239 [.int (6 : Int32)] [] rfl rfl rfl lay67 dX12_expression_26 (t_X12_is (d := d - 1) (by omega) hc5) (by omega) ?_
    refine x_if_eq hP dX12_expression_29 (tgt := 84) (by decide) (fun c7 => ?_) (fun c7 => ?_)
    · replace hf := p_t c7 hf
      refine x_drop hP [some (.ref 67), some (.int l1), none] (And.intro rfl (And.intro rfl trivial)) ?_
      cases hf
      exact hx
    · replace hf := p_f c7 hf
      refine x_aload_n hP dX12_expression_32 rfl ?_
      refine x_getI hP fX12_248 lay67 dX12_expression_33 ?_
      refine x_bipush hP dX12_expression_36 (v := 6) rfl ?_
      obtain ⟨t8, het8, hf⟩ := b_bd hf
      have hj8 : P 46 [some (.ref 67), some (.int l1), none] [] LAY t8 := by
        refine x_aload_n hP dX12_expression_46 rfl ?_
        refine x_dup hP dX12_expression_47 rfl ?_
        refine x_getI hP fX12_248 lay67 dX12_expression_48 ?_
        refine x_iconst hP dX12_expression_51 (v := 1) rfl ?_
        refine x_iadd hP dX12_expression_52 ?_
        obtain ⟨M12, hM12, hf⟩ := b_lt hf
        refine y_putI hP fX12_248 lay67 hM12 dX12_expression_53 ?_
        refine x_aload_n hP dX12_expression_56 rfl ?_
        obtain ⟨M14, hc13, hf⟩ := b_bd hf
        refine y_cvv hP oX12_goesOn lX12_242 [] [] rfl rfl rfl lay67 dX12_expression_57 (t_X12_goesOn (d := d - 1) (by omega) hc13) (by omega) ?_
        refine x_aload_n hP dX12_expression_60 rfl ?_
        refine x_getA hP fX12_116 lay67 (r := 100) rfl dX12_expression_61 ?_
        refine x_aload_n hP dX12_expression_64 rfl ?_
        refine x_getI hP fX12_317 lay67 dX12_expression_65 ?_
        refine x_bipush hP dX12_expression_68 (v := 6) rfl ?_
        obtain ⟨M15, hiM15, hM15, hf⟩ := b_pg hf
        refine y_ast hP lay100 hiM15 hM15 dX12_expression_70 ?_
        refine x_aload_n hP dX12_expression_71 rfl ?_
        refine x_dup hP dX12_expression_72 rfl ?_
        refine x_getI hP fX12_317 lay67 dX12_expression_73 ?_
        refine x_iconst hP dX12_expression_76 (v := 1) rfl ?_
        refine x_iadd hP dX12_expression_77 ?_
        obtain ⟨M16, hM16, hf⟩ := b_lt hf
        refine y_putI hP fX12_317 lay67 hM16 dX12_expression_78 ?_
        refine x_goto hP dX12_expression_81 (tgt := 23) (by decide) ?_
        refine x_drop hP [some (.ref 67), some (.int l1), none] (And.intro rfl (And.intro rfl trivial)) ?_
        exact ih _ _ _ hf hx
      clear hf
      have hf := het8
      clear het8
      refine x_icmp_ne hP dX12_expression_38 (tgt := 46) (by decide) (fun c9 => ?_) (fun c9 => ?_)
      · replace hf := p_f c9 hf
        refine x_drop hP [some (.ref 67), some (.int l1), none] (And.intro rfl (And.intro rfl trivial)) ?_
        cases hf
        exact hj8
      · replace hf := p_t c9 hf
        refine x_aload_n hP dX12_expression_41 rfl ?_
        refine x_iconst hP dX12_expression_42 (v := 2) rfl ?_
        obtain ⟨M11, hc10, hf⟩ := b_bd hf
        refine y_cvv hP oX12_fail lX12_236 [.int (2 : Int32)] [] rfl rfl rfl lay67 dX12_expression_43 (t_X12_fail (d := d - 1) (by omega) hc10) (by omega) ?_
        refine x_drop hP [some (.ref 67), some (.int l1), none] (And.intro rfl (And.intro rfl trivial)) ?_
        cases hf
        exact hj8
set_option maxHeartbeats 1000000 in
set_option maxRecDepth 20000 in
theorem t_X12_expression_L96 {g : GG} {d : Nat} {P : PT} {res : Option RS} (hd : 4 ≤ d)  (hP : IsM g iX12_expression d res P) : ∀ (fu : Nat) (l1 : Int32) (M : Mem) (t : Mem), f_X12_expression_L96 fu l1 M = some t → P 145 [some (.ref 67), some (.int l1), none] [] LAY t → P 96 [some (.ref 67), some (.int l1), none] [] LAY M := by
  have hd1 : 1 ≤ d := by omega
  intro fu
  induction fu with
  | zero => intro l1 M t hf; simp [f_X12_expression_L96] at hf
  | succ fu ih =>
    intro l1 M t hf hx
    rw [f_X12_expression_L96] at hf
    refine x_aload_n hP dX12_expression_96 rfl ?_
    refine x_bipush hP dX12_expression_97 (v := 7) rfl ?_
    obtain ⟨v23, hc22, hf⟩ := b_bd hf
    refine y_cvi hP oX12_is lX12_239 [.int (7 : Int32)] [] rfl rfl rfl lay67 dX12_expression_99 (t_X12_is (d := d - 1) (by omega) hc22) (by omega) ?_
    refine x_if_eq hP dX12_expression_102 (tgt := 145) (by decide) (fun c24 => ?_) (fun c24 => ?_)
    · replace hf := p_t c24 hf
      refine x_drop hP [some (.ref 67), some (.int l1), none] (And.intro rfl (And.intro rfl trivial)) ?_
      cases hf
      exact hx
    · replace hf := p_f c24 hf
      refine x_aload_n hP dX12_expression_105 rfl ?_
      refine x_getI hP fX12_248 lay67 dX12_expression_106 ?_
      refine x_iload_n hP dX12_expression_109 rfl ?_
      refine x_icmp_le hP dX12_expression_110 (tgt := 145) (by decide) (fun c25 => ?_) (fun c25 => ?_)
      · replace hf := p_t c25 hf
        refine x_drop hP [some (.ref 67), some (.int l1), none] (And.intro rfl (And.intro rfl trivial)) ?_
        cases hf
        exact hx
      · replace hf := p_f c25 hf
        refine x_aload_n hP dX12_expression_113 rfl ?_
        refine x_iconst hP dX12_expression_114 (v := 0) rfl ?_
        obtain ⟨M27, hc26, hf⟩ := b_bd hf
        refine y_cvv hP oX12_comesOut lX12_326 [.int (0 : Int32)] [] rfl rfl rfl lay67 dX12_expression_115 (t_X12_comesOut (d := d - 1) (by omega) hc26) (by omega) ?_
        refine x_aload_n hP dX12_expression_118 rfl ?_
        refine x_dup hP dX12_expression_119 rfl ?_
        refine x_getI hP fX12_317 lay67 dX12_expression_120 ?_
        refine x_iconst hP dX12_expression_123 (v := 1) rfl ?_
        refine x_isub hP dX12_expression_124 ?_
        obtain ⟨M28, hM28, hf⟩ := b_lt hf
        refine y_putI hP fX12_317 lay67 hM28 dX12_expression_125 ?_
        refine x_aload_n hP dX12_expression_128 rfl ?_
        refine x_dup hP dX12_expression_129 rfl ?_
        refine x_getI hP fX12_248 lay67 dX12_expression_130 ?_
        refine x_iconst hP dX12_expression_133 (v := 1) rfl ?_
        refine x_isub hP dX12_expression_134 ?_
        obtain ⟨M29, hM29, hf⟩ := b_lt hf
        refine y_putI hP fX12_248 lay67 hM29 dX12_expression_135 ?_
        refine x_aload_n hP dX12_expression_138 rfl ?_
        obtain ⟨M31, hc30, hf⟩ := b_bd hf
        refine y_cvv hP oX12_goesOn lX12_242 [] [] rfl rfl rfl lay67 dX12_expression_139 (t_X12_goesOn (d := d - 1) (by omega) hc30) (by omega) ?_
        refine x_goto hP dX12_expression_142 (tgt := 96) (by decide) ?_
        refine x_drop hP [some (.ref 67), some (.int l1), none] (And.intro rfl (And.intro rfl trivial)) ?_
        exact ih _ _ _ hf hx
set_option maxHeartbeats 1000000 in
set_option maxRecDepth 20000 in
theorem t_X12_expression_L12 {g : GG} {d : Nat} {P : PT} {M' : Mem} (hd : 4 ≤ d)  {l1 : Int32} (hP : IsM g iX12_expression d (some (none, LAY, M')) P) {k : Mem → Option (Mem)} (hk : ∀ t : Mem, k t = some M' → P 272 [none, none, none] [] LAY t) : ∀ (fu : Nat) (l2 : Int32) (M : Mem), f_X12_expression_L12 k fu l1 l2 M = some M' → P 12 [some (.ref 67), some (.int l1), some (.int l2)] [] LAY M := by
  have hd1 : 1 ≤ d := by omega
  intro fu
  induction fu with
  | zero => intro l2 M hf; simp [f_X12_expression_L12] at hf
  | succ fu ih =>
    intro l2 M hf
    rw [f_X12_expression_L12] at hf
    refine x_iload_n hP dX12_expression_12 rfl ?_
    refine x_if_eq hP dX12_expression_13 (tgt := 272) (by decide) (fun c3 => ?_) (fun c3 => ?_)
    · replace hf := p_t c3 hf
      refine x_drop hP [none, none, none] trivial ?_
      exact hk _ hf
    · replace hf := p_f c3 hf
      refine x_aload_n hP dX12_expression_16 rfl ?_
      refine x_getI hP fX12_221 lay67 dX12_expression_17 ?_
      refine x_if_ne hP dX12_expression_20 (tgt := 272) (by decide) (fun c4 => ?_) (fun c4 => ?_)
      · replace hf := p_f c4 hf
        refine x_drop hP [none, none, none] trivial ?_
        exact hk _ hf
      · replace hf := p_t c4 hf
        refine x_drop hP [some (.ref 67), some (.int l1), none] (And.intro rfl (And.intro rfl trivial)) ?_
        obtain ⟨t17, hl18, hf⟩ := b_bd hf
        refine t_X12_expression_L23 hd hP _ _ _ _ hl18 ?_
        refine x_aload_n hP dX12_expression_84 rfl ?_
        obtain ⟨M20, hc19, hf⟩ := b_bd hf
        refine y_cvv hP oX12_unit lX12_323 [] [] rfl rfl rfl lay67 dX12_expression_85 (t_X12_unit (d := d - 1) (by omega) hc19) (by omega) ?_
        refine x_aload_n hP dX12_expression_88 rfl ?_
        refine x_getI hP fX12_221 lay67 dX12_expression_89 ?_
        refine x_if_le hP dX12_expression_92 (tgt := 96) (by decide) (fun c21 => ?_) (fun c21 => ?_)
        · replace hf := p_t c21 hf
          refine x_drop hP [some (.ref 67), some (.int l1), none] (And.intro rfl (And.intro rfl trivial)) ?_
          obtain ⟨t32, hl33, hf⟩ := b_bd hf
          refine t_X12_expression_L96 hd hP _ _ _ _ hl33 ?_
          refine x_aload_n hP dX12_expression_145 rfl ?_
          refine x_bipush hP dX12_expression_146 (v := 8) rfl ?_
          obtain ⟨v35, hc34, hf⟩ := b_bd hf
          refine y_cvi hP oX12_is lX12_239 [.int (8 : Int32)] [] rfl rfl rfl lay67 dX12_expression_148 (t_X12_is (d := d - 1) (by omega) hc34) (by omega) ?_
          obtain ⟨t36, het36, hf⟩ := b_bd hf
          have hj36 : P 186 [some (.ref 67), some (.int l1), none] [.int t36] LAY t32 := by
            refine x_istore_n hP (ls2 := [some (.ref 67), some (.int l1), some (.int t36)]) dX12_expression_186 rfl rfl rfl ?_
            refine x_iload_n hP dX12_expression_187 rfl ?_
            refine x_if_ne hP dX12_expression_188 (tgt := 210) (by decide) (fun c47 => ?_) (fun c47 => ?_)
            · replace hf := p_f c47 hf
              refine x_aload_n hP dX12_expression_210 rfl ?_
              refine x_aload_n hP dX12_expression_211 rfl ?_
              refine x_bipush hP dX12_expression_212 (v := 10) rfl ?_
              obtain ⟨v55, hc54, hf⟩ := b_bd hf
              refine y_cvi hP oX12_is lX12_239 [.int (10 : Int32)] [.ref 67] rfl rfl rfl lay67 dX12_expression_214 (t_X12_is (d := d - 1) (by omega) hc54) (by omega) ?_
              obtain ⟨t56, het56, hf⟩ := b_bd hf
              have hj56 : P 234 [some (.ref 67), some (.int l1), some (.int t36)] [.int t56, .ref 67] LAY t32 := by
                obtain ⟨M62, hc61, hf⟩ := b_bd hf
                refine y_cvv hP oX12_comesOut lX12_326 [.int t56] [] rfl rfl rfl lay67 dX12_expression_234 (t_X12_comesOut (d := d - 1) (by omega) hc61) (by omega) ?_
                refine x_aload_n hP dX12_expression_237 rfl ?_
                refine x_getA hP fX12_116 lay67 (r := 100) rfl dX12_expression_238 ?_
                refine x_aload_n hP dX12_expression_241 rfl ?_
                refine x_getI hP fX12_317 lay67 dX12_expression_242 ?_
                refine x_aload_n hP dX12_expression_245 rfl ?_
                refine x_getA hP fX12_20 lay67 (r := 70) rfl dX12_expression_246 ?_
                refine x_aload_n hP dX12_expression_249 rfl ?_
                refine x_getI hP fX12_224 lay67 dX12_expression_250 ?_
                obtain ⟨v63, hiv63, hv63, hf⟩ := b_ag hf
                refine y_ald hP lay70 hiv63 hv63 dX12_expression_253 ?_
                obtain ⟨M64, hiM64, hM64, hf⟩ := b_pg hf
                refine y_ast hP lay100 hiM64 hM64 dX12_expression_254 ?_
                refine x_aload_n hP dX12_expression_255 rfl ?_
                refine x_dup hP dX12_expression_256 rfl ?_
                refine x_getI hP fX12_317 lay67 dX12_expression_257 ?_
                refine x_iconst hP dX12_expression_260 (v := 1) rfl ?_
                refine x_iadd hP dX12_expression_261 ?_
                obtain ⟨M65, hM65, hf⟩ := b_lt hf
                refine y_putI hP fX12_317 lay67 hM65 dX12_expression_262 ?_
                refine x_aload_n hP dX12_expression_265 rfl ?_
                obtain ⟨M67, hc66, hf⟩ := b_bd hf
                refine y_cvv hP oX12_goesOn lX12_242 [] [] rfl rfl rfl lay67 dX12_expression_266 (t_X12_goesOn (d := d - 1) (by omega) hc66) (by omega) ?_
                refine x_goto hP dX12_expression_269 (tgt := 12) (by decide) ?_
                refine x_drop hP [some (.ref 67), some (.int l1), some (.int t36)] (And.intro rfl (And.intro rfl (And.intro rfl trivial))) ?_
                exact ih _ _ hf
              clear hf
              have hf := het56
              clear het56
              refine x_if_ne hP dX12_expression_217 (tgt := 229) (by decide) (fun c57 => ?_) (fun c57 => ?_)
              · replace hf := p_f c57 hf
                refine x_iconst hP dX12_expression_229 (v := 1) rfl ?_
                refine x_goto hP dX12_expression_230 (tgt := 234) (by decide) ?_
                refine x_drop hP [some (.ref 67), some (.int l1), some (.int t36)] (And.intro rfl (And.intro rfl (And.intro rfl trivial))) ?_
                cases hf
                exact hj56
              · replace hf := p_t c57 hf
                refine x_aload_n hP dX12_expression_220 rfl ?_
                refine x_bipush hP dX12_expression_221 (v := 15) rfl ?_
                obtain ⟨v59, hc58, hf⟩ := b_bd hf
                refine y_cvi hP oX12_is lX12_239 [.int (15 : Int32)] [.ref 67] rfl rfl rfl lay67 dX12_expression_223 (t_X12_is (d := d - 1) (by omega) hc58) (by omega) ?_
                refine x_if_eq hP dX12_expression_226 (tgt := 233) (by decide) (fun c60 => ?_) (fun c60 => ?_)
                · replace hf := p_t c60 hf
                  refine x_iconst hP dX12_expression_233 (v := 0) rfl ?_
                  refine x_drop hP [some (.ref 67), some (.int l1), some (.int t36)] (And.intro rfl (And.intro rfl (And.intro rfl trivial))) ?_
                  cases hf
                  exact hj56
                · replace hf := p_f c60 hf
                  refine x_iconst hP dX12_expression_229 (v := 1) rfl ?_
                  refine x_goto hP dX12_expression_230 (tgt := 234) (by decide) ?_
                  refine x_drop hP [some (.ref 67), some (.int l1), some (.int t36)] (And.intro rfl (And.intro rfl (And.intro rfl trivial))) ?_
                  cases hf
                  exact hj56
            · replace hf := p_t c47 hf
              refine x_aload_n hP dX12_expression_191 rfl ?_
              refine x_getI hP fX12_248 lay67 dX12_expression_192 ?_
              refine x_iload_n hP dX12_expression_195 rfl ?_
              obtain ⟨t48, het48, hf⟩ := b_bd hf
              have hj48 : P 204 [some (.ref 67), none, none] [] LAY t48 := by
                refine x_aload_n hP dX12_expression_204 rfl ?_
                refine x_iconst hP dX12_expression_205 (v := 0) rfl ?_
                obtain ⟨M53, hc52, hf⟩ := b_bd hf
                refine y_cvv hP oX12_comesOut lX12_326 [.int (0 : Int32)] [] rfl rfl rfl lay67 dX12_expression_206 (t_X12_comesOut (d := d - 1) (by omega) hc52) (by omega) ?_
                cases hf
                exact x_vret hP rfl dX12_expression_209
              clear hf
              have hf := het48
              clear het48
              refine x_icmp_le hP dX12_expression_196 (tgt := 204) (by decide) (fun c49 => ?_) (fun c49 => ?_)
              · replace hf := p_t c49 hf
                refine x_drop hP [some (.ref 67), none, none] (And.intro rfl trivial) ?_
                cases hf
                exact hj48
              · replace hf := p_f c49 hf
                refine x_aload_n hP dX12_expression_199 rfl ?_
                refine x_iconst hP dX12_expression_200 (v := 1) rfl ?_
                obtain ⟨M51, hc50, hf⟩ := b_bd hf
                refine y_cvv hP oX12_fail lX12_236 [.int (1 : Int32)] [] rfl rfl rfl lay67 dX12_expression_201 (t_X12_fail (d := d - 1) (by omega) hc50) (by omega) ?_
                refine x_drop hP [some (.ref 67), none, none] (And.intro rfl trivial) ?_
                cases hf
                exact hj48
          clear hf
          have hf := het36
          clear het36
          refine x_if_ne hP dX12_expression_151 (tgt := 181) (by decide) (fun c37 => ?_) (fun c37 => ?_)
          · replace hf := p_f c37 hf
            refine x_iconst hP dX12_expression_181 (v := 1) rfl ?_
            refine x_goto hP dX12_expression_182 (tgt := 186) (by decide) ?_
            refine x_drop hP [some (.ref 67), some (.int l1), none] (And.intro rfl (And.intro rfl trivial)) ?_
            cases hf
            exact hj36
          · replace hf := p_t c37 hf
            refine x_aload_n hP dX12_expression_154 rfl ?_
            refine x_bipush hP dX12_expression_155 (v := 9) rfl ?_
            obtain ⟨v39, hc38, hf⟩ := b_bd hf
            refine y_cvi hP oX12_is lX12_239 [.int (9 : Int32)] [] rfl rfl rfl lay67 dX12_expression_157 (t_X12_is (d := d - 1) (by omega) hc38) (by omega) ?_
            refine x_if_ne hP dX12_expression_160 (tgt := 181) (by decide) (fun c40 => ?_) (fun c40 => ?_)
            · replace hf := p_f c40 hf
              refine x_iconst hP dX12_expression_181 (v := 1) rfl ?_
              refine x_goto hP dX12_expression_182 (tgt := 186) (by decide) ?_
              refine x_drop hP [some (.ref 67), some (.int l1), none] (And.intro rfl (And.intro rfl trivial)) ?_
              cases hf
              exact hj36
            · replace hf := p_t c40 hf
              refine x_aload_n hP dX12_expression_163 rfl ?_
              refine x_bipush hP dX12_expression_164 (v := 10) rfl ?_
              obtain ⟨v42, hc41, hf⟩ := b_bd hf
              refine y_cvi hP oX12_is lX12_239 [.int (10 : Int32)] [] rfl rfl rfl lay67 dX12_expression_166 (t_X12_is (d := d - 1) (by omega) hc41) (by omega) ?_
              refine x_if_ne hP dX12_expression_169 (tgt := 181) (by decide) (fun c43 => ?_) (fun c43 => ?_)
              · replace hf := p_f c43 hf
                refine x_iconst hP dX12_expression_181 (v := 1) rfl ?_
                refine x_goto hP dX12_expression_182 (tgt := 186) (by decide) ?_
                refine x_drop hP [some (.ref 67), some (.int l1), none] (And.intro rfl (And.intro rfl trivial)) ?_
                cases hf
                exact hj36
              · replace hf := p_t c43 hf
                refine x_aload_n hP dX12_expression_172 rfl ?_
                refine x_bipush hP dX12_expression_173 (v := 15) rfl ?_
                obtain ⟨v45, hc44, hf⟩ := b_bd hf
                refine y_cvi hP oX12_is lX12_239 [.int (15 : Int32)] [] rfl rfl rfl lay67 dX12_expression_175 (t_X12_is (d := d - 1) (by omega) hc44) (by omega) ?_
                refine x_if_eq hP dX12_expression_178 (tgt := 185) (by decide) (fun c46 => ?_) (fun c46 => ?_)
                · replace hf := p_t c46 hf
                  refine x_iconst hP dX12_expression_185 (v := 0) rfl ?_
                  refine x_drop hP [some (.ref 67), some (.int l1), none] (And.intro rfl (And.intro rfl trivial)) ?_
                  cases hf
                  exact hj36
                · replace hf := p_f c46 hf
                  refine x_iconst hP dX12_expression_181 (v := 1) rfl ?_
                  refine x_goto hP dX12_expression_182 (tgt := 186) (by decide) ?_
                  refine x_drop hP [some (.ref 67), some (.int l1), none] (And.intro rfl (And.intro rfl trivial)) ?_
                  cases hf
                  exact hj36
        · replace hf := p_f c21 hf
          cases hf
          exact x_vret hP rfl dX12_expression_95
set_option maxHeartbeats 1000000 in
set_option maxRecDepth 20000 in
theorem t_X12_expression {g : GG} {d : Nat} (hd : 4 ≤ d) {M : Mem} {M' : Mem} (hf : f_X12_expression M = some M') : ExM g d iX12_expression [.ref 67] LAY M (none, LAY, M') := by
  have hd1 : 1 ≤ d := by omega
  refine ExM.main pnX12 rfl (ls := [some (.ref 67), none, none]) rfl ?_
  intro P hP
  rw [f_X12_expression] at hf
  refine x_aload_n hP dX12_expression_0 rfl ?_
  refine x_iconst hP dX12_expression_1 (v := 0) rfl ?_
  obtain ⟨M1, hM1, hf⟩ := b_lt hf
  refine y_putI hP fX12_317 lay67 hM1 dX12_expression_2 ?_
  refine x_aload_n hP dX12_expression_5 rfl ?_
  refine x_getI hP fX12_248 lay67 dX12_expression_6 ?_
  obtain ⟨v2, hv2, hf⟩ := b_lt hf
  refine y_nmI hv2 ?_
  refine x_istore_n hP (ls2 := [some (.ref 67), some (.int v2), none]) dX12_expression_9 rfl rfl rfl ?_
  refine x_iconst hP dX12_expression_10 (v := 1) rfl ?_
  refine x_istore_n hP (ls2 := [some (.ref 67), some (.int v2), some (.int (1 : Int32))]) dX12_expression_11 rfl rfl rfl ?_
  refine x_drop hP [some (.ref 67), some (.int v2), some (.int (1 : Int32))] (And.intro rfl (And.intro rfl (And.intro rfl trivial))) ?_
  refine t_X12_expression_L12 hd hP (fun t68 hf => ?_) _ _ _ hf
  cases hf
  exact x_vret hP rfl dX12_expression_272
def f_X12_term (M : Mem) : Option (Mem) :=
  (pg M 96 260 (M.1 67 39) (M.1 67 45)).bind fun M1 =>
  (
    if M1.1 67 13 = 0 then
      (f_X12_expression M1).bind fun M5 =>
      some M5
    else
      some M1
  ).bind fun t2 =>
  (pg t2 97 260 (t2.1 67 39) (t2.1 67 45)).bind fun M6 =>
  lt (sI M6 67 39 ((M6.1 67 39) + (1 : Int32))) fun M7 =>
  some M7
set_option maxHeartbeats 1000000 in
set_option maxRecDepth 20000 in
theorem t_X12_term {g : GG} {d : Nat} (hd : 5 ≤ d) {M : Mem} {M' : Mem} (hf : f_X12_term M = some M') : ExM g d iX12_term [.ref 67] LAY M (none, LAY, M') := by
  have hd1 : 1 ≤ d := by omega
  refine ExM.main pnX12 rfl (ls := [some (.ref 67)]) rfl ?_
  intro P hP
  rw [f_X12_term] at hf
  refine x_aload_n hP dX12_term_0 rfl ?_
  refine x_getA hP fX12_104 lay67 (r := 96) rfl dX12_term_1 ?_
  refine x_aload_n hP dX12_term_4 rfl ?_
  refine x_getI hP fX12_260 lay67 dX12_term_5 ?_
  refine x_aload_n hP dX12_term_8 rfl ?_
  refine x_getI hP fX12_263 lay67 dX12_term_9 ?_
  obtain ⟨M1, hiM1, hM1, hf⟩ := b_pg hf
  refine y_ast hP lay96 hiM1 hM1 dX12_term_12 ?_
  refine x_aload_n hP dX12_term_13 rfl ?_
  refine x_getI hP fX12_221 lay67 dX12_term_14 ?_
  obtain ⟨t2, het2, hf⟩ := b_bd hf
  have hj2 : P 24 [some (.ref 67)] [] LAY t2 := by
    refine x_aload_n hP dX12_term_24 rfl ?_
    refine x_getA hP fX12_107 lay67 (r := 97) rfl dX12_term_25 ?_
    refine x_aload_n hP dX12_term_28 rfl ?_
    refine x_getI hP fX12_260 lay67 dX12_term_29 ?_
    refine x_aload_n hP dX12_term_32 rfl ?_
    refine x_getI hP fX12_263 lay67 dX12_term_33 ?_
    obtain ⟨M6, hiM6, hM6, hf⟩ := b_pg hf
    refine y_ast hP lay97 hiM6 hM6 dX12_term_36 ?_
    refine x_aload_n hP dX12_term_37 rfl ?_
    refine x_dup hP dX12_term_38 rfl ?_
    refine x_getI hP fX12_260 lay67 dX12_term_39 ?_
    refine x_iconst hP dX12_term_42 (v := 1) rfl ?_
    refine x_iadd hP dX12_term_43 ?_
    obtain ⟨M7, hM7, hf⟩ := b_lt hf
    refine y_putI hP fX12_260 lay67 hM7 dX12_term_44 ?_
    cases hf
    exact x_vret hP rfl dX12_term_47
  clear hf
  have hf := het2
  clear het2
  refine x_if_ne hP dX12_term_17 (tgt := 24) (by decide) (fun c3 => ?_) (fun c3 => ?_)
  · replace hf := p_f c3 hf
    refine x_drop hP [some (.ref 67)] (And.intro rfl trivial) ?_
    cases hf
    exact hj2
  · replace hf := p_t c3 hf
    refine x_aload_n hP dX12_term_20 rfl ?_
    obtain ⟨M5, hc4, hf⟩ := b_bd hf
    refine y_cvv hP oX12_expression lX12_311 [] [] rfl rfl rfl lay67 dX12_term_21 (t_X12_expression (d := d - 1) (by omega) hc4) (by omega) ?_
    refine x_drop hP [some (.ref 67)] (And.intro rfl trivial) ?_
    cases hf
    exact hj2
def f_X12_tellLaw_L12 (k : Mem → Option (Mem)) : Nat → Int32 → Int32 → Int32 → Mem → Option (Mem)
  | 0, _, _, _, _ => none
  | fu + 1, l1, l2, l3, M =>
    if M.1 67 13 = 0 then
      (f_X12_is (31 : Int32) M).bind fun v6 =>
      if v6 = 0 then
        k M
      else
        (
          if l3 = (4 : Int32) then
            (f_X12_fail (2 : Int32) M).bind fun M11 =>
            some M11
          else
            some M
        ).bind fun t8 =>
        if t8.1 67 13 ≤ 0 then
          lt (l3 + 1 : Int32) fun v13 =>
          (f_X12_goesOn t8).bind fun M15 =>
          (pz M15 93 260 (M15.1 67 39) (1 : Int32)).bind fun M16 =>
          (pg M16 94 260 (M16.1 67 39) (M16.1 67 45)).bind fun M17 =>
          (f_X12_expression M17).bind fun M19 =>
          (f_X12_must (13 : Int32) M19).bind fun M21 =>
          (pg M21 95 260 (M21.1 67 39) (M21.1 67 45)).bind fun M22 =>
          (
            if M22.1 67 13 = 0 then
              (f_X12_expression M22).bind fun M26 =>
              some M26
            else
              some M22
          ).bind fun t23 =>
          (f_X12_must (32 : Int32) t23).bind fun M28 =>
          (f_X12_term M28).bind fun M30 =>
          (f_X12_must (33 : Int32) M30).bind fun M32 =>
          f_X12_tellLaw_L12 k fu l1 l2 v13 M32
        else
          some t8
    else
      k M
def f_X12_tellLaw (x1 : Int32) (M : Mem) : Option (Mem) :=
  (f_X12_must (5 : Int32) M).bind fun M2 =>
  lt (M2.1 67 39 : Int32) fun v3 =>
  f_X12_tellLaw_L12 (fun t33 =>
      (pz t33 93 260 (t33.1 67 39) (0 : Int32)).bind fun M34 =>
      (f_X12_term M34).bind fun M36 =>
      (f_X12_must (4 : Int32) M36).bind fun M38 =>
      if M38.1 67 13 ≤ 0 then
        (pg M38 91 8 (((4 : Int32) * (M38.1 67 19)) + x1) v3).bind fun M40 =>
        (pg M40 92 8 (((4 : Int32) * (M40.1 67 19)) + x1) (M40.1 67 39)).bind fun M41 =>
        some M41
      else
        some M38
    ) FU x1 v3 (0 : Int32) M2
set_option maxHeartbeats 1000000 in
set_option maxRecDepth 20000 in
theorem t_X12_tellLaw_L12 {g : GG} {d : Nat} {P : PT} {M' : Mem} (hd : 6 ≤ d)  {l1 : Int32} {l2 : Int32} (hP : IsM g iX12_tellLaw d (some (none, LAY, M')) P) {k : Mem → Option (Mem)} (hk : ∀ t : Mem, k t = some M' → P 129 [some (.ref 67), some (.int l1), some (.int l2), none] [] LAY t) : ∀ (fu : Nat) (l3 : Int32) (M : Mem), f_X12_tellLaw_L12 k fu l1 l2 l3 M = some M' → P 12 [some (.ref 67), some (.int l1), some (.int l2), some (.int l3)] [] LAY M := by
  have hd1 : 1 ≤ d := by omega
  intro fu
  induction fu with
  | zero => intro l3 M hf; simp [f_X12_tellLaw_L12] at hf
  | succ fu ih =>
    intro l3 M hf
    rw [f_X12_tellLaw_L12] at hf
    refine x_aload_n hP dX12_tellLaw_12 rfl ?_
    refine x_getI hP fX12_221 lay67 dX12_tellLaw_13 ?_
    refine x_if_ne hP dX12_tellLaw_16 (tgt := 129) (by decide) (fun c4 => ?_) (fun c4 => ?_)
    · replace hf := p_f c4 hf
      refine x_drop hP [some (.ref 67), some (.int l1), some (.int l2), none] (And.intro rfl (And.intro rfl (And.intro rfl trivial))) ?_
      exact hk _ hf
    · replace hf := p_t c4 hf
      refine x_aload_n hP dX12_tellLaw_19 rfl ?_
      refine x_bipush hP dX12_tellLaw_20 (v := 31) rfl ?_
      obtain ⟨v6, hc5, hf⟩ := b_bd hf
      refine y_cvi hP oX12_is lX12_239 [.int (31 : Int32)] [] rfl rfl rfl lay67 dX12_tellLaw_22 (t_X12_is (d := d - 1) (by omega) hc5) (by omega) ?_
      refine x_if_eq hP dX12_tellLaw_25 (tgt := 129) (by decide) (fun c7 => ?_) (fun c7 => ?_)
      · replace hf := p_t c7 hf
        refine x_drop hP [some (.ref 67), some (.int l1), some (.int l2), none] (And.intro rfl (And.intro rfl (And.intro rfl trivial))) ?_
        exact hk _ hf
      · replace hf := p_f c7 hf
        refine x_iload_n hP dX12_tellLaw_28 rfl ?_
        refine x_iconst hP dX12_tellLaw_29 (v := 4) rfl ?_
        obtain ⟨t8, het8, hf⟩ := b_bd hf
        have hj8 : P 38 [some (.ref 67), some (.int l1), some (.int l2), some (.int l3)] [] LAY t8 := by
          refine x_aload_n hP dX12_tellLaw_38 rfl ?_
          refine x_getI hP fX12_221 lay67 dX12_tellLaw_39 ?_
          refine x_if_le hP dX12_tellLaw_42 (tgt := 46) (by decide) (fun c12 => ?_) (fun c12 => ?_)
          · replace hf := p_t c12 hf
            obtain ⟨v13, hv13, hf⟩ := b_lt hf
            refine x_iinc hP (v := v13) (ls2 := [some (.ref 67), some (.int l1), some (.int l2), some (.int v13)]) dX12_tellLaw_46 rfl (by rw [hv13]; rfl) rfl rfl ?_
            refine x_aload_n hP dX12_tellLaw_49 rfl ?_
            obtain ⟨M15, hc14, hf⟩ := b_bd hf
            refine y_cvv hP oX12_goesOn lX12_242 [] [] rfl rfl rfl lay67 dX12_tellLaw_50 (t_X12_goesOn (d := d - 1) (by omega) hc14) (by omega) ?_
            refine x_aload_n hP dX12_tellLaw_53 rfl ?_
            refine x_getA hP fX12_94 lay67 (r := 93) rfl dX12_tellLaw_54 ?_
            refine x_aload_n hP dX12_tellLaw_57 rfl ?_
            refine x_getI hP fX12_260 lay67 dX12_tellLaw_58 ?_
            refine x_iconst hP dX12_tellLaw_61 (v := 1) rfl ?_
            obtain ⟨M16, hiM16, hM16, hf⟩ := b_pz hf
            refine y_zst hP lay93 hiM16 hM16 dX12_tellLaw_62 ?_
            refine x_aload_n hP dX12_tellLaw_63 rfl ?_
            refine x_getA hP fX12_98 lay67 (r := 94) rfl dX12_tellLaw_64 ?_
            refine x_aload_n hP dX12_tellLaw_67 rfl ?_
            refine x_getI hP fX12_260 lay67 dX12_tellLaw_68 ?_
            refine x_aload_n hP dX12_tellLaw_71 rfl ?_
            refine x_getI hP fX12_263 lay67 dX12_tellLaw_72 ?_
            obtain ⟨M17, hiM17, hM17, hf⟩ := b_pg hf
            refine y_ast hP lay94 hiM17 hM17 dX12_tellLaw_75 ?_
            refine x_aload_n hP dX12_tellLaw_76 rfl ?_
            obtain ⟨M19, hc18, hf⟩ := b_bd hf
            refine y_cvv hP oX12_expression lX12_311 [] [] rfl rfl rfl lay67 dX12_tellLaw_77 (t_X12_expression (d := d - 1) (by omega) hc18) (by omega) ?_
            refine x_aload_n hP dX12_tellLaw_80 rfl ?_
            refine x_bipush hP dX12_tellLaw_81 (v := 13) rfl ?_
            obtain ⟨M21, hc20, hf⟩ := b_bd hf
            refine y_cvv hP oX12_must lX12_279 [.int (13 : Int32)] [] rfl rfl rfl lay67 dX12_tellLaw_83 (t_X12_must (d := d - 1) (by omega) hc20) (by omega) ?_
            refine x_aload_n hP dX12_tellLaw_86 rfl ?_
            refine x_getA hP fX12_101 lay67 (r := 95) rfl dX12_tellLaw_87 ?_
            refine x_aload_n hP dX12_tellLaw_90 rfl ?_
            refine x_getI hP fX12_260 lay67 dX12_tellLaw_91 ?_
            refine x_aload_n hP dX12_tellLaw_94 rfl ?_
            refine x_getI hP fX12_263 lay67 dX12_tellLaw_95 ?_
            obtain ⟨M22, hiM22, hM22, hf⟩ := b_pg hf
            refine y_ast hP lay95 hiM22 hM22 dX12_tellLaw_98 ?_
            refine x_aload_n hP dX12_tellLaw_99 rfl ?_
            refine x_getI hP fX12_221 lay67 dX12_tellLaw_100 ?_
            obtain ⟨t23, het23, hf⟩ := b_bd hf
            have hj23 : P 110 [some (.ref 67), some (.int l1), some (.int l2), some (.int v13)] [] LAY t23 := by
              refine x_aload_n hP dX12_tellLaw_110 rfl ?_
              refine x_bipush hP dX12_tellLaw_111 (v := 32) rfl ?_
              obtain ⟨M28, hc27, hf⟩ := b_bd hf
              refine y_cvv hP oX12_must lX12_279 [.int (32 : Int32)] [] rfl rfl rfl lay67 dX12_tellLaw_113 (t_X12_must (d := d - 1) (by omega) hc27) (by omega) ?_
              refine x_aload_n hP dX12_tellLaw_116 rfl ?_
              obtain ⟨M30, hc29, hf⟩ := b_bd hf
              refine y_cvv hP oX12_term lX12_314 [] [] rfl rfl rfl lay67 dX12_tellLaw_117 (t_X12_term (d := d - 1) (by omega) hc29) (by omega) ?_
              refine x_aload_n hP dX12_tellLaw_120 rfl ?_
              refine x_bipush hP dX12_tellLaw_121 (v := 33) rfl ?_
              obtain ⟨M32, hc31, hf⟩ := b_bd hf
              refine y_cvv hP oX12_must lX12_279 [.int (33 : Int32)] [] rfl rfl rfl lay67 dX12_tellLaw_123 (t_X12_must (d := d - 1) (by omega) hc31) (by omega) ?_
              refine x_goto hP dX12_tellLaw_126 (tgt := 12) (by decide) ?_
              refine x_drop hP [some (.ref 67), some (.int l1), some (.int l2), some (.int v13)] (And.intro rfl (And.intro rfl (And.intro rfl (And.intro rfl trivial)))) ?_
              exact ih _ _ hf
            clear hf
            have hf := het23
            clear het23
            refine x_if_ne hP dX12_tellLaw_103 (tgt := 110) (by decide) (fun c24 => ?_) (fun c24 => ?_)
            · replace hf := p_f c24 hf
              refine x_drop hP [some (.ref 67), some (.int l1), some (.int l2), some (.int v13)] (And.intro rfl (And.intro rfl (And.intro rfl (And.intro rfl trivial)))) ?_
              cases hf
              exact hj23
            · replace hf := p_t c24 hf
              refine x_aload_n hP dX12_tellLaw_106 rfl ?_
              obtain ⟨M26, hc25, hf⟩ := b_bd hf
              refine y_cvv hP oX12_expression lX12_311 [] [] rfl rfl rfl lay67 dX12_tellLaw_107 (t_X12_expression (d := d - 1) (by omega) hc25) (by omega) ?_
              refine x_drop hP [some (.ref 67), some (.int l1), some (.int l2), some (.int v13)] (And.intro rfl (And.intro rfl (And.intro rfl (And.intro rfl trivial)))) ?_
              cases hf
              exact hj23
          · replace hf := p_f c12 hf
            cases hf
            exact x_vret hP rfl dX12_tellLaw_45
        clear hf
        have hf := het8
        clear het8
        refine x_icmp_ne hP dX12_tellLaw_30 (tgt := 38) (by decide) (fun c9 => ?_) (fun c9 => ?_)
        · replace hf := p_f c9 hf
          refine x_drop hP [some (.ref 67), some (.int l1), some (.int l2), some (.int l3)] (And.intro rfl (And.intro rfl (And.intro rfl (And.intro rfl trivial)))) ?_
          cases hf
          exact hj8
        · replace hf := p_t c9 hf
          refine x_aload_n hP dX12_tellLaw_33 rfl ?_
          refine x_iconst hP dX12_tellLaw_34 (v := 2) rfl ?_
          obtain ⟨M11, hc10, hf⟩ := b_bd hf
          refine y_cvv hP oX12_fail lX12_236 [.int (2 : Int32)] [] rfl rfl rfl lay67 dX12_tellLaw_35 (t_X12_fail (d := d - 1) (by omega) hc10) (by omega) ?_
          refine x_drop hP [some (.ref 67), some (.int l1), some (.int l2), some (.int l3)] (And.intro rfl (And.intro rfl (And.intro rfl (And.intro rfl trivial)))) ?_
          cases hf
          exact hj8
set_option maxHeartbeats 1000000 in
set_option maxRecDepth 20000 in
theorem t_X12_tellLaw {g : GG} {d : Nat} (hd : 6 ≤ d) {x1 : Int32} {M : Mem} {M' : Mem} (hf : f_X12_tellLaw x1 M = some M') : ExM g d iX12_tellLaw [.ref 67, .int x1] LAY M (none, LAY, M') := by
  have hd1 : 1 ≤ d := by omega
  refine ExM.main pnX12 rfl (ls := [some (.ref 67), some (.int x1), none, none]) rfl ?_
  intro P hP
  rw [f_X12_tellLaw] at hf
  refine x_aload_n hP dX12_tellLaw_0 rfl ?_
  refine x_iconst hP dX12_tellLaw_1 (v := 5) rfl ?_
  obtain ⟨M2, hc1, hf⟩ := b_bd hf
  refine y_cvv hP oX12_must lX12_279 [.int (5 : Int32)] [] rfl rfl rfl lay67 dX12_tellLaw_2 (t_X12_must (d := d - 1) (by omega) hc1) (by omega) ?_
  refine x_aload_n hP dX12_tellLaw_5 rfl ?_
  refine x_getI hP fX12_260 lay67 dX12_tellLaw_6 ?_
  obtain ⟨v3, hv3, hf⟩ := b_lt hf
  refine y_nmI hv3 ?_
  refine x_istore_n hP (ls2 := [some (.ref 67), some (.int x1), some (.int v3), none]) dX12_tellLaw_9 rfl rfl rfl ?_
  refine x_iconst hP dX12_tellLaw_10 (v := 0) rfl ?_
  refine x_istore_n hP (ls2 := [some (.ref 67), some (.int x1), some (.int v3), some (.int (0 : Int32))]) dX12_tellLaw_11 rfl rfl rfl ?_
  refine x_drop hP [some (.ref 67), some (.int x1), some (.int v3), some (.int (0 : Int32))] (And.intro rfl (And.intro rfl (And.intro rfl (And.intro rfl trivial)))) ?_
  refine t_X12_tellLaw_L12 hd hP (fun t33 hf => ?_) _ _ _ hf
  refine x_aload_n hP dX12_tellLaw_129 rfl ?_
  refine x_getA hP fX12_94 lay67 (r := 93) rfl dX12_tellLaw_130 ?_
  refine x_aload_n hP dX12_tellLaw_133 rfl ?_
  refine x_getI hP fX12_260 lay67 dX12_tellLaw_134 ?_
  refine x_iconst hP dX12_tellLaw_137 (v := 0) rfl ?_
  obtain ⟨M34, hiM34, hM34, hf⟩ := b_pz hf
  refine y_zst hP lay93 hiM34 hM34 dX12_tellLaw_138 ?_
  refine x_aload_n hP dX12_tellLaw_139 rfl ?_
  obtain ⟨M36, hc35, hf⟩ := b_bd hf
  refine y_cvv hP oX12_term lX12_314 [] [] rfl rfl rfl lay67 dX12_tellLaw_140 (t_X12_term (d := d - 1) (by omega) hc35) (by omega) ?_
  refine x_aload_n hP dX12_tellLaw_143 rfl ?_
  refine x_iconst hP dX12_tellLaw_144 (v := 4) rfl ?_
  obtain ⟨M38, hc37, hf⟩ := b_bd hf
  refine y_cvv hP oX12_must lX12_279 [.int (4 : Int32)] [] rfl rfl rfl lay67 dX12_tellLaw_145 (t_X12_must (d := d - 1) (by omega) hc37) (by omega) ?_
  refine x_aload_n hP dX12_tellLaw_148 rfl ?_
  refine x_getI hP fX12_221 lay67 dX12_tellLaw_149 ?_
  refine x_if_le hP dX12_tellLaw_152 (tgt := 156) (by decide) (fun c39 => ?_) (fun c39 => ?_)
  · replace hf := p_t c39 hf
    refine x_aload_n hP dX12_tellLaw_156 rfl ?_
    refine x_getA hP fX12_88 lay67 (r := 91) rfl dX12_tellLaw_157 ?_
    refine x_iconst hP dX12_tellLaw_160 (v := 4) rfl ?_
    refine x_aload_n hP dX12_tellLaw_161 rfl ?_
    refine x_getI hP fX12_254 lay67 dX12_tellLaw_162 ?_
    refine x_imul hP dX12_tellLaw_165 ?_
    refine x_iload_n hP dX12_tellLaw_166 rfl ?_
    refine x_iadd hP dX12_tellLaw_167 ?_
    refine x_iload_n hP dX12_tellLaw_168 rfl ?_
    obtain ⟨M40, hiM40, hM40, hf⟩ := b_pg hf
    refine y_ast hP lay91 hiM40 hM40 dX12_tellLaw_169 ?_
    refine x_aload_n hP dX12_tellLaw_170 rfl ?_
    refine x_getA hP fX12_91 lay67 (r := 92) rfl dX12_tellLaw_171 ?_
    refine x_iconst hP dX12_tellLaw_174 (v := 4) rfl ?_
    refine x_aload_n hP dX12_tellLaw_175 rfl ?_
    refine x_getI hP fX12_254 lay67 dX12_tellLaw_176 ?_
    refine x_imul hP dX12_tellLaw_179 ?_
    refine x_iload_n hP dX12_tellLaw_180 rfl ?_
    refine x_iadd hP dX12_tellLaw_181 ?_
    refine x_aload_n hP dX12_tellLaw_182 rfl ?_
    refine x_getI hP fX12_260 lay67 dX12_tellLaw_183 ?_
    obtain ⟨M41, hiM41, hM41, hf⟩ := b_pg hf
    refine y_ast hP lay92 hiM41 hM41 dX12_tellLaw_186 ?_
    cases hf
    exact x_vret hP rfl dX12_tellLaw_187
  · replace hf := p_f c39 hf
    cases hf
    exact x_vret hP rfl dX12_tellLaw_155
def f_X12_tellOne (M : Mem) : Option (Mem) :=
  (ag M 70 403 (M.1 67 11)).bind fun v1 =>
  if v1 = 20 then
    (ag M 77 2 (M.1 67 19)).bind fun v3 =>
    (f_X12_roomFor v3 (7 : Int32) M).bind fun M5 =>
    if M5.1 67 13 ≤ 0 then
      (f_X12_named M5).bind fun t8 =>
      (ag t8.2 77 2 (t8.2.1 67 19)).bind fun v9 =>
      (f_X12_endsName t8.1 v9 t8.2).bind fun M11 =>
      if M11.1 67 13 = 0 then
        (ag M11 77 2 (M11.1 67 19)).bind fun v13 =>
        (pg M11 77 2 (M11.1 67 19) (v13 + (1 : Int32))).bind fun M14 =>
        some M14
      else
        some M11
    else
      some M5
  else
  if v1 = 21 then
    (ag M 78 2 (M.1 67 19)).bind fun v16 =>
    (f_X12_roomFor v16 (10 : Int32) M).bind fun M18 =>
    if M18.1 67 13 = 0 then
      (f_X12_tellStreet M18).bind fun M21 =>
      some M21
    else
      some M18
  else
  if v1 = 22 then
    (ag M 82 2 (M.1 67 19)).bind fun v23 =>
    (f_X12_roomFor v23 (6 : Int32) M).bind fun M25 =>
    if M25.1 67 13 = 0 then
      (f_X12_tellYoung M25).bind fun M28 =>
      some M28
    else
      some M25
  else
  if v1 = 23 then
    (ag M 86 2 (M.1 67 19)).bind fun v30 =>
    (f_X12_roomFor v30 (5 : Int32) M).bind fun M32 =>
    if M32.1 67 13 ≤ 0 then
      (f_X12_named M32).bind fun t35 =>
      (ag t35.2 86 2 (t35.2.1 67 19)).bind fun v36 =>
      (f_X12_bounded (0 : Int32) (99 : Int32) t35.2).bind fun t38 =>
      (pg t38.2 87 10 (((5 : Int32) * (t35.2.1 67 19)) + v36) t38.1).bind fun M39 =>
      (f_X12_endsName t35.1 (10 : Int32) M39).bind fun M41 =>
      if M41.1 67 13 = 0 then
        (ag M41 86 2 (M41.1 67 19)).bind fun v43 =>
        (pg M41 86 2 (M41.1 67 19) (v43 + (1 : Int32))).bind fun M44 =>
        some M44
      else
        some M41
    else
      some M32
  else
  if v1 = 24 then
    (f_X12_goesOn M).bind fun M47 =>
    (f_X12_known M47).bind fun t49 =>
    (pg t49.2 88 2 (M47.1 67 19) t49.1).bind fun M50 =>
    (f_X12_must (4 : Int32) M50).bind fun M52 =>
    some M52
  else
  if v1 = 29 then
    (f_X12_toldInt (100 : Int32) M).bind fun t55 =>
    (pg t55.2 89 2 (M.1 67 19) t55.1).bind fun M56 =>
    some M56
  else
  if v1 = 30 then
    (f_X12_toldInt (9999 : Int32) M).bind fun t59 =>
    (pg t59.2 90 2 (M.1 67 19) t59.1).bind fun M60 =>
    some M60
  else
  (ag M 70 403 (M.1 67 11)).bind fun v61 =>
  lt (v61 - (25 : Int32) : Int32) fun v62 =>
  (
    if v62 < 0 then
      (f_X12_fail (1 : Int32) M).bind fun M66 =>
      some M66
    else
      (ag M 70 403 (M.1 67 11)).bind fun v67 =>
      if v67 ≤ (28 : Int32) then
        some M
      else
        (f_X12_fail (1 : Int32) M).bind fun M70 =>
        some M70
  ).bind fun t63 =>
  if t63.1 67 13 ≤ 0 then
    (f_X12_goesOn t63).bind fun M73 =>
    (f_X12_tellLaw v62 M73).bind fun M75 =>
    some M75
  else
    some t63
set_option maxHeartbeats 1000000 in
set_option maxRecDepth 20000 in
theorem t_X12_tellOne {g : GG} {d : Nat} (hd : 7 ≤ d) {M : Mem} {M' : Mem} (hf : f_X12_tellOne M = some M') : ExM g d iX12_tellOne [.ref 67] LAY M (none, LAY, M') := by
  have hd1 : 1 ≤ d := by omega
  refine ExM.main pnX12 rfl (ls := [some (.ref 67), none]) rfl ?_
  intro P hP
  rw [f_X12_tellOne] at hf
  refine x_aload_n hP dX12_tellOne_0 rfl ?_
  refine x_getA hP fX12_20 lay67 (r := 70) rfl dX12_tellOne_1 ?_
  refine x_aload_n hP dX12_tellOne_4 rfl ?_
  refine x_getI hP fX12_224 lay67 dX12_tellOne_5 ?_
  obtain ⟨v1, hiv1, hv1, hf⟩ := b_ag hf
  refine y_ald hP lay70 hiv1 hv1 dX12_tellOne_8 ?_
  by_cases c2 : v1 = 20
  · refine x_tswE hP dX12_tellOne_9 c2 (by decide) (by decide) (off := 59) rfl (tgt := 68) (by decide) ?_
    replace hf := p_t c2 hf
    refine x_aload_n hP dX12_tellOne_68 rfl ?_
    refine x_aload_n hP dX12_tellOne_69 rfl ?_
    refine x_getA hP fX12_46 lay67 (r := 77) rfl dX12_tellOne_70 ?_
    refine x_aload_n hP dX12_tellOne_73 rfl ?_
    refine x_getI hP fX12_254 lay67 dX12_tellOne_74 ?_
    obtain ⟨v3, hiv3, hv3, hf⟩ := b_ag hf
    refine y_ald hP lay77 hiv3 hv3 dX12_tellOne_77 ?_
    refine x_bipush hP dX12_tellOne_78 (v := 7) rfl ?_
    obtain ⟨M5, hc4, hf⟩ := b_bd hf
    refine y_cvv hP oX12_roomFor lX12_282 [.int v3, .int (7 : Int32)] [] rfl rfl rfl lay67 dX12_tellOne_80 (t_X12_roomFor (d := d - 1) (by omega) hc4) (by omega) ?_
    refine x_aload_n hP dX12_tellOne_83 rfl ?_
    refine x_getI hP fX12_221 lay67 dX12_tellOne_84 ?_
    refine x_if_le hP dX12_tellOne_87 (tgt := 91) (by decide) (fun c6 => ?_) (fun c6 => ?_)
    · replace hf := p_t c6 hf
      refine x_aload_n hP dX12_tellOne_91 rfl ?_
      refine x_aload_n hP dX12_tellOne_92 rfl ?_
      obtain ⟨t8, hc7, hf⟩ := b_bd hf
      refine y_cvi hP oX12_named lX12_286 [] [.ref 67] rfl rfl rfl lay67 dX12_tellOne_93 (t_X12_named (d := d - 1) (by omega) hc7) (by omega) ?_
      refine x_aload_n hP dX12_tellOne_96 rfl ?_
      refine x_getA hP fX12_46 lay67 (r := 77) rfl dX12_tellOne_97 ?_
      refine x_aload_n hP dX12_tellOne_100 rfl ?_
      refine x_getI hP fX12_254 lay67 dX12_tellOne_101 ?_
      obtain ⟨v9, hiv9, hv9, hf⟩ := b_ag hf
      refine y_ald hP lay77 hiv9 hv9 dX12_tellOne_104 ?_
      obtain ⟨M11, hc10, hf⟩ := b_bd hf
      refine y_cvv hP oX12_endsName lX12_290 [.int t8.1, .int v9] [] rfl rfl rfl lay67 dX12_tellOne_105 (t_X12_endsName (d := d - 1) (by omega) hc10) (by omega) ?_
      refine x_aload_n hP dX12_tellOne_108 rfl ?_
      refine x_getI hP fX12_221 lay67 dX12_tellOne_109 ?_
      refine x_if_ne hP dX12_tellOne_112 (tgt := 389) (by decide) (fun c12 => ?_) (fun c12 => ?_)
      · replace hf := p_f c12 hf
        cases hf
        exact x_vret hP rfl dX12_tellOne_389
      · replace hf := p_t c12 hf
        refine x_aload_n hP dX12_tellOne_115 rfl ?_
        refine x_getA hP fX12_46 lay67 (r := 77) rfl dX12_tellOne_116 ?_
        refine x_aload_n hP dX12_tellOne_119 rfl ?_
        refine x_getI hP fX12_254 lay67 dX12_tellOne_120 ?_
        refine x_dup2 hP dX12_tellOne_123 rfl rfl ?_
        obtain ⟨v13, hiv13, hv13, hf⟩ := b_ag hf
        refine y_ald hP lay77 hiv13 hv13 dX12_tellOne_124 ?_
        refine x_iconst hP dX12_tellOne_125 (v := 1) rfl ?_
        refine x_iadd hP dX12_tellOne_126 ?_
        obtain ⟨M14, hiM14, hM14, hf⟩ := b_pg hf
        refine y_ast hP lay77 hiM14 hM14 dX12_tellOne_127 ?_
        refine x_goto hP dX12_tellOne_128 (tgt := 389) (by decide) ?_
        cases hf
        exact x_vret hP rfl dX12_tellOne_389
    · replace hf := p_f c6 hf
      cases hf
      exact x_vret hP rfl dX12_tellOne_90
  replace hf := p_f c2 hf
  by_cases c15 : v1 = 21
  · refine x_tswE hP dX12_tellOne_9 c15 (by decide) (by decide) (off := 122) rfl (tgt := 131) (by decide) ?_
    replace hf := p_t c15 hf
    refine x_aload_n hP dX12_tellOne_131 rfl ?_
    refine x_aload_n hP dX12_tellOne_132 rfl ?_
    refine x_getA hP fX12_49 lay67 (r := 78) rfl dX12_tellOne_133 ?_
    refine x_aload_n hP dX12_tellOne_136 rfl ?_
    refine x_getI hP fX12_254 lay67 dX12_tellOne_137 ?_
    obtain ⟨v16, hiv16, hv16, hf⟩ := b_ag hf
    refine y_ald hP lay78 hiv16 hv16 dX12_tellOne_140 ?_
    refine x_bipush hP dX12_tellOne_141 (v := 10) rfl ?_
    obtain ⟨M18, hc17, hf⟩ := b_bd hf
    refine y_cvv hP oX12_roomFor lX12_282 [.int v16, .int (10 : Int32)] [] rfl rfl rfl lay67 dX12_tellOne_143 (t_X12_roomFor (d := d - 1) (by omega) hc17) (by omega) ?_
    refine x_aload_n hP dX12_tellOne_146 rfl ?_
    refine x_getI hP fX12_221 lay67 dX12_tellOne_147 ?_
    refine x_if_ne hP dX12_tellOne_150 (tgt := 389) (by decide) (fun c19 => ?_) (fun c19 => ?_)
    · replace hf := p_f c19 hf
      cases hf
      exact x_vret hP rfl dX12_tellOne_389
    · replace hf := p_t c19 hf
      refine x_aload_n hP dX12_tellOne_153 rfl ?_
      obtain ⟨M21, hc20, hf⟩ := b_bd hf
      refine y_cvv hP oX12_tellStreet lX12_293 [] [] rfl rfl rfl lay67 dX12_tellOne_154 (t_X12_tellStreet (d := d - 1) (by omega) hc20) (by omega) ?_
      refine x_goto hP dX12_tellOne_157 (tgt := 389) (by decide) ?_
      cases hf
      exact x_vret hP rfl dX12_tellOne_389
  replace hf := p_f c15 hf
  by_cases c22 : v1 = 22
  · refine x_tswE hP dX12_tellOne_9 c22 (by decide) (by decide) (off := 151) rfl (tgt := 160) (by decide) ?_
    replace hf := p_t c22 hf
    refine x_aload_n hP dX12_tellOne_160 rfl ?_
    refine x_aload_n hP dX12_tellOne_161 rfl ?_
    refine x_getA hP fX12_61 lay67 (r := 82) rfl dX12_tellOne_162 ?_
    refine x_aload_n hP dX12_tellOne_165 rfl ?_
    refine x_getI hP fX12_254 lay67 dX12_tellOne_166 ?_
    obtain ⟨v23, hiv23, hv23, hf⟩ := b_ag hf
    refine y_ald hP lay82 hiv23 hv23 dX12_tellOne_169 ?_
    refine x_bipush hP dX12_tellOne_170 (v := 6) rfl ?_
    obtain ⟨M25, hc24, hf⟩ := b_bd hf
    refine y_cvv hP oX12_roomFor lX12_282 [.int v23, .int (6 : Int32)] [] rfl rfl rfl lay67 dX12_tellOne_172 (t_X12_roomFor (d := d - 1) (by omega) hc24) (by omega) ?_
    refine x_aload_n hP dX12_tellOne_175 rfl ?_
    refine x_getI hP fX12_221 lay67 dX12_tellOne_176 ?_
    refine x_if_ne hP dX12_tellOne_179 (tgt := 389) (by decide) (fun c26 => ?_) (fun c26 => ?_)
    · replace hf := p_f c26 hf
      cases hf
      exact x_vret hP rfl dX12_tellOne_389
    · replace hf := p_t c26 hf
      refine x_aload_n hP dX12_tellOne_182 rfl ?_
      obtain ⟨M28, hc27, hf⟩ := b_bd hf
      refine y_cvv hP oX12_tellYoung lX12_296 [] [] rfl rfl rfl lay67 dX12_tellOne_183 (t_X12_tellYoung (d := d - 1) (by omega) hc27) (by omega) ?_
      refine x_goto hP dX12_tellOne_186 (tgt := 389) (by decide) ?_
      cases hf
      exact x_vret hP rfl dX12_tellOne_389
  replace hf := p_f c22 hf
  by_cases c29 : v1 = 23
  · refine x_tswE hP dX12_tellOne_9 c29 (by decide) (by decide) (off := 180) rfl (tgt := 189) (by decide) ?_
    replace hf := p_t c29 hf
    refine x_aload_n hP dX12_tellOne_189 rfl ?_
    refine x_aload_n hP dX12_tellOne_190 rfl ?_
    refine x_getA hP fX12_73 lay67 (r := 86) rfl dX12_tellOne_191 ?_
    refine x_aload_n hP dX12_tellOne_194 rfl ?_
    refine x_getI hP fX12_254 lay67 dX12_tellOne_195 ?_
    obtain ⟨v30, hiv30, hv30, hf⟩ := b_ag hf
    refine y_ald hP lay86 hiv30 hv30 dX12_tellOne_198 ?_
    refine x_iconst hP dX12_tellOne_199 (v := 5) rfl ?_
    obtain ⟨M32, hc31, hf⟩ := b_bd hf
    refine y_cvv hP oX12_roomFor lX12_282 [.int v30, .int (5 : Int32)] [] rfl rfl rfl lay67 dX12_tellOne_200 (t_X12_roomFor (d := d - 1) (by omega) hc31) (by omega) ?_
    refine x_aload_n hP dX12_tellOne_203 rfl ?_
    refine x_getI hP fX12_221 lay67 dX12_tellOne_204 ?_
    refine x_if_le hP dX12_tellOne_207 (tgt := 211) (by decide) (fun c33 => ?_) (fun c33 => ?_)
    · replace hf := p_t c33 hf
      refine x_aload_n hP dX12_tellOne_211 rfl ?_
      obtain ⟨t35, hc34, hf⟩ := b_bd hf
      refine y_cvi hP oX12_named lX12_286 [] [] rfl rfl rfl lay67 dX12_tellOne_212 (t_X12_named (d := d - 1) (by omega) hc34) (by omega) ?_
      refine x_istore_n hP (ls2 := [some (.ref 67), some (.int t35.1)]) dX12_tellOne_215 rfl rfl rfl ?_
      refine x_aload_n hP dX12_tellOne_216 rfl ?_
      refine x_getA hP fX12_76 lay67 (r := 87) rfl dX12_tellOne_217 ?_
      refine x_iconst hP dX12_tellOne_220 (v := 5) rfl ?_
      refine x_aload_n hP dX12_tellOne_221 rfl ?_
      refine x_getI hP fX12_254 lay67 dX12_tellOne_222 ?_
      refine x_imul hP dX12_tellOne_225 ?_
      refine x_aload_n hP dX12_tellOne_226 rfl ?_
      refine x_getA hP fX12_73 lay67 (r := 86) rfl dX12_tellOne_227 ?_
      refine x_aload_n hP dX12_tellOne_230 rfl ?_
      refine x_getI hP fX12_254 lay67 dX12_tellOne_231 ?_
      obtain ⟨v36, hiv36, hv36, hf⟩ := b_ag hf
      refine y_ald hP lay86 hiv36 hv36 dX12_tellOne_234 ?_
      refine x_iadd hP dX12_tellOne_235 ?_
      refine x_aload_n hP dX12_tellOne_236 rfl ?_
      refine x_iconst hP dX12_tellOne_237 (v := 0) rfl ?_
      refine x_bipush hP dX12_tellOne_238 (v := 99) rfl ?_
      obtain ⟨t38, hc37, hf⟩ := b_bd hf
      refine y_cvi hP oX12_bounded lX12_275 [.int (0 : Int32), .int (99 : Int32)] [.int (((5 : Int32) * (t35.2.1 67 19)) + v36), .ref 87] rfl rfl rfl lay67 dX12_tellOne_240 (t_X12_bounded (d := d - 1) (by omega) hc37) (by omega) ?_
      obtain ⟨M39, hiM39, hM39, hf⟩ := b_pg hf
      refine y_ast hP lay87 hiM39 hM39 dX12_tellOne_243 ?_
      refine x_aload_n hP dX12_tellOne_244 rfl ?_
      refine x_iload_n hP dX12_tellOne_245 rfl ?_
      refine x_bipush hP dX12_tellOne_246 (v := 10) rfl ?_
      obtain ⟨M41, hc40, hf⟩ := b_bd hf
      refine y_cvv hP oX12_endsName lX12_290 [.int t35.1, .int (10 : Int32)] [] rfl rfl rfl lay67 dX12_tellOne_248 (t_X12_endsName (d := d - 1) (by omega) hc40) (by omega) ?_
      refine x_aload_n hP dX12_tellOne_251 rfl ?_
      refine x_getI hP fX12_221 lay67 dX12_tellOne_252 ?_
      refine x_if_ne hP dX12_tellOne_255 (tgt := 389) (by decide) (fun c42 => ?_) (fun c42 => ?_)
      · replace hf := p_f c42 hf
        cases hf
        exact x_vret hP rfl dX12_tellOne_389
      · replace hf := p_t c42 hf
        refine x_aload_n hP dX12_tellOne_258 rfl ?_
        refine x_getA hP fX12_73 lay67 (r := 86) rfl dX12_tellOne_259 ?_
        refine x_aload_n hP dX12_tellOne_262 rfl ?_
        refine x_getI hP fX12_254 lay67 dX12_tellOne_263 ?_
        refine x_dup2 hP dX12_tellOne_266 rfl rfl ?_
        obtain ⟨v43, hiv43, hv43, hf⟩ := b_ag hf
        refine y_ald hP lay86 hiv43 hv43 dX12_tellOne_267 ?_
        refine x_iconst hP dX12_tellOne_268 (v := 1) rfl ?_
        refine x_iadd hP dX12_tellOne_269 ?_
        obtain ⟨M44, hiM44, hM44, hf⟩ := b_pg hf
        refine y_ast hP lay86 hiM44 hM44 dX12_tellOne_270 ?_
        refine x_goto hP dX12_tellOne_271 (tgt := 389) (by decide) ?_
        cases hf
        exact x_vret hP rfl dX12_tellOne_389
    · replace hf := p_f c33 hf
      cases hf
      exact x_vret hP rfl dX12_tellOne_210
  replace hf := p_f c29 hf
  by_cases c45 : v1 = 24
  · refine x_tswE hP dX12_tellOne_9 c45 (by decide) (by decide) (off := 265) rfl (tgt := 274) (by decide) ?_
    replace hf := p_t c45 hf
    refine x_aload_n hP dX12_tellOne_274 rfl ?_
    obtain ⟨M47, hc46, hf⟩ := b_bd hf
    refine y_cvv hP oX12_goesOn lX12_242 [] [] rfl rfl rfl lay67 dX12_tellOne_275 (t_X12_goesOn (d := d - 1) (by omega) hc46) (by omega) ?_
    refine x_aload_n hP dX12_tellOne_278 rfl ?_
    refine x_getA hP fX12_79 lay67 (r := 88) rfl dX12_tellOne_279 ?_
    refine x_aload_n hP dX12_tellOne_282 rfl ?_
    refine x_getI hP fX12_254 lay67 dX12_tellOne_283 ?_
    refine x_aload_n hP dX12_tellOne_286 rfl ?_
    obtain ⟨t49, hc48, hf⟩ := b_bd hf
    refine y_cvi hP oX12_known lX12_299 [] [.int (M47.1 67 19), .ref 88] rfl rfl rfl lay67 dX12_tellOne_287 (t_X12_known (d := d - 1) (by omega) hc48) (by omega) ?_
    obtain ⟨M50, hiM50, hM50, hf⟩ := b_pg hf
    refine y_ast hP lay88 hiM50 hM50 dX12_tellOne_290 ?_
    refine x_aload_n hP dX12_tellOne_291 rfl ?_
    refine x_iconst hP dX12_tellOne_292 (v := 4) rfl ?_
    obtain ⟨M52, hc51, hf⟩ := b_bd hf
    refine y_cvv hP oX12_must lX12_279 [.int (4 : Int32)] [] rfl rfl rfl lay67 dX12_tellOne_293 (t_X12_must (d := d - 1) (by omega) hc51) (by omega) ?_
    refine x_goto hP dX12_tellOne_296 (tgt := 389) (by decide) ?_
    cases hf
    exact x_vret hP rfl dX12_tellOne_389
  replace hf := p_f c45 hf
  by_cases c53 : v1 = 29
  · refine x_tswE hP dX12_tellOne_9 c53 (by decide) (by decide) (off := 290) rfl (tgt := 299) (by decide) ?_
    replace hf := p_t c53 hf
    refine x_aload_n hP dX12_tellOne_299 rfl ?_
    refine x_getA hP fX12_82 lay67 (r := 89) rfl dX12_tellOne_300 ?_
    refine x_aload_n hP dX12_tellOne_303 rfl ?_
    refine x_getI hP fX12_254 lay67 dX12_tellOne_304 ?_
    refine x_aload_n hP dX12_tellOne_307 rfl ?_
    refine x_bipush hP dX12_tellOne_308 (v := 100) rfl ?_
    obtain ⟨t55, hc54, hf⟩ := b_bd hf
    refine y_cvi hP oX12_toldInt lX12_302 [.int (100 : Int32)] [.int (M.1 67 19), .ref 89] rfl rfl rfl lay67 dX12_tellOne_310 (t_X12_toldInt (d := d - 1) (by omega) hc54) (by omega) ?_
    obtain ⟨M56, hiM56, hM56, hf⟩ := b_pg hf
    refine y_ast hP lay89 hiM56 hM56 dX12_tellOne_313 ?_
    refine x_goto hP dX12_tellOne_314 (tgt := 389) (by decide) ?_
    cases hf
    exact x_vret hP rfl dX12_tellOne_389
  replace hf := p_f c53 hf
  by_cases c57 : v1 = 30
  · refine x_tswE hP dX12_tellOne_9 c57 (by decide) (by decide) (off := 308) rfl (tgt := 317) (by decide) ?_
    replace hf := p_t c57 hf
    refine x_aload_n hP dX12_tellOne_317 rfl ?_
    refine x_getA hP fX12_85 lay67 (r := 90) rfl dX12_tellOne_318 ?_
    refine x_aload_n hP dX12_tellOne_321 rfl ?_
    refine x_getI hP fX12_254 lay67 dX12_tellOne_322 ?_
    refine x_aload_n hP dX12_tellOne_325 rfl ?_
    refine x_sipush hP dX12_tellOne_326 (v := 9999) rfl ?_
    obtain ⟨t59, hc58, hf⟩ := b_bd hf
    refine y_cvi hP oX12_toldInt lX12_302 [.int (9999 : Int32)] [.int (M.1 67 19), .ref 90] rfl rfl rfl lay67 dX12_tellOne_329 (t_X12_toldInt (d := d - 1) (by omega) hc58) (by omega) ?_
    obtain ⟨M60, hiM60, hM60, hf⟩ := b_pg hf
    refine y_ast hP lay90 hiM60 hM60 dX12_tellOne_332 ?_
    refine x_goto hP dX12_tellOne_333 (tgt := 389) (by decide) ?_
    cases hf
    exact x_vret hP rfl dX12_tellOne_389
  replace hf := p_f c57 hf
  refine x_tswD hP dX12_tellOne_9 [20, 21, 22, 23, 24, 29, 30] (And.intro (neI c2) (And.intro (neI c15) (And.intro (neI c22) (And.intro (neI c29) (And.intro (neI c45) (And.intro (neI c53) (And.intro (neI c57) trivial))))))) (by decide) (by decide) (tgt := 336) (by decide) ?_
  refine x_aload_n hP dX12_tellOne_336 rfl ?_
  refine x_getA hP fX12_20 lay67 (r := 70) rfl dX12_tellOne_337 ?_
  refine x_aload_n hP dX12_tellOne_340 rfl ?_
  refine x_getI hP fX12_224 lay67 dX12_tellOne_341 ?_
  obtain ⟨v61, hiv61, hv61, hf⟩ := b_ag hf
  refine y_ald hP lay70 hiv61 hv61 dX12_tellOne_344 ?_
  refine x_bipush hP dX12_tellOne_345 (v := 25) rfl ?_
  refine x_isub hP dX12_tellOne_347 ?_
  obtain ⟨v62, hv62, hf⟩ := b_lt hf
  refine y_nmI hv62 ?_
  refine x_istore_n hP (ls2 := [some (.ref 67), some (.int v62)]) dX12_tellOne_348 rfl rfl rfl ?_
  refine x_iload_n hP dX12_tellOne_349 rfl ?_
  obtain ⟨t63, het63, hf⟩ := b_bd hf
  have hj63 : P 372 [some (.ref 67), some (.int v62)] [] LAY t63 := by
    refine x_aload_n hP dX12_tellOne_372 rfl ?_
    refine x_getI hP fX12_221 lay67 dX12_tellOne_373 ?_
    refine x_if_le hP dX12_tellOne_376 (tgt := 380) (by decide) (fun c71 => ?_) (fun c71 => ?_)
    · replace hf := p_t c71 hf
      refine x_aload_n hP dX12_tellOne_380 rfl ?_
      obtain ⟨M73, hc72, hf⟩ := b_bd hf
      refine y_cvv hP oX12_goesOn lX12_242 [] [] rfl rfl rfl lay67 dX12_tellOne_381 (t_X12_goesOn (d := d - 1) (by omega) hc72) (by omega) ?_
      refine x_aload_n hP dX12_tellOne_384 rfl ?_
      refine x_iload_n hP dX12_tellOne_385 rfl ?_
      obtain ⟨M75, hc74, hf⟩ := b_bd hf
      refine y_cvv hP oX12_tellLaw lX12_305 [.int v62] [] rfl rfl rfl lay67 dX12_tellOne_386 (t_X12_tellLaw (d := d - 1) (by omega) hc74) (by omega) ?_
      cases hf
      exact x_vret hP rfl dX12_tellOne_389
    · replace hf := p_f c71 hf
      cases hf
      exact x_vret hP rfl dX12_tellOne_379
  clear hf
  have hf := het63
  clear het63
  refine x_if_lt hP dX12_tellOne_350 (tgt := 367) (by decide) (fun c64 => ?_) (fun c64 => ?_)
  · replace hf := p_t c64 hf
    refine x_aload_n hP dX12_tellOne_367 rfl ?_
    refine x_iconst hP dX12_tellOne_368 (v := 1) rfl ?_
    obtain ⟨M66, hc65, hf⟩ := b_bd hf
    refine y_cvv hP oX12_fail lX12_236 [.int (1 : Int32)] [] rfl rfl rfl lay67 dX12_tellOne_369 (t_X12_fail (d := d - 1) (by omega) hc65) (by omega) ?_
    refine x_drop hP [some (.ref 67), some (.int v62)] (And.intro rfl (And.intro rfl trivial)) ?_
    cases hf
    exact hj63
  · replace hf := p_f c64 hf
    refine x_aload_n hP dX12_tellOne_353 rfl ?_
    refine x_getA hP fX12_20 lay67 (r := 70) rfl dX12_tellOne_354 ?_
    refine x_aload_n hP dX12_tellOne_357 rfl ?_
    refine x_getI hP fX12_224 lay67 dX12_tellOne_358 ?_
    obtain ⟨v67, hiv67, hv67, hf⟩ := b_ag hf
    refine y_ald hP lay70 hiv67 hv67 dX12_tellOne_361 ?_
    refine x_bipush hP dX12_tellOne_362 (v := 28) rfl ?_
    refine x_icmp_le hP dX12_tellOne_364 (tgt := 372) (by decide) (fun c68 => ?_) (fun c68 => ?_)
    · replace hf := p_t c68 hf
      refine x_drop hP [some (.ref 67), some (.int v62)] (And.intro rfl (And.intro rfl trivial)) ?_
      cases hf
      exact hj63
    · replace hf := p_f c68 hf
      refine x_aload_n hP dX12_tellOne_367 rfl ?_
      refine x_iconst hP dX12_tellOne_368 (v := 1) rfl ?_
      obtain ⟨M70, hc69, hf⟩ := b_bd hf
      refine y_cvv hP oX12_fail lX12_236 [.int (1 : Int32)] [] rfl rfl rfl lay67 dX12_tellOne_369 (t_X12_fail (d := d - 1) (by omega) hc69) (by omega) ?_
      refine x_drop hP [some (.ref 67), some (.int v62)] (And.intro rfl (And.intro rfl trivial)) ?_
      cases hf
      exact hj63
def f_X12_begins_L2 : Nat → Int32 → Mem → Option (Mem)
  | 0, _, _ => none
  | fu + 1, l1, M =>
    if (48 : Int32) ≤ l1 then
      some M
    else
      (pg M 104 48 l1 (0 : Int32)).bind fun M2 =>
      lt (l1 + 1 : Int32) fun v3 =>
      f_X12_begins_L2 fu v3 M2
def f_X12_begins_L23 : Nat → Int32 → Mem → Option (Mem)
  | 0, _, _ => none
  | fu + 1, l1, M =>
    (ag M 82 2 (M.1 67 18)).bind fun v6 =>
    if v6 ≤ l1 then
      some M
    else
      (ag M 85 12 (((6 : Int32) * (M.1 67 18)) + l1)).bind fun v8 =>
      (pg M 104 48 l1 v8).bind fun M9 =>
      lt (l1 + 1 : Int32) fun v10 =>
      f_X12_begins_L23 fu v10 M9
def f_X12_begins_L64 : Nat → Int32 → Mem → Option (Mem)
  | 0, _, _ => none
  | fu + 1, l1, M =>
    (ag M 86 2 (M.1 67 18)).bind fun v13 =>
    if v13 ≤ l1 then
      some M
    else
      (ag M 87 10 (((5 : Int32) * (M.1 67 18)) + l1)).bind fun v15 =>
      (pg M 104 48 ((36 : Int32) + l1) v15).bind fun M16 =>
      lt (l1 + 1 : Int32) fun v17 =>
      f_X12_begins_L64 fu v17 M16
def f_X12_begins (M : Mem) : Option (Mem) :=
  (f_X12_begins_L2 FU (0 : Int32) M).bind fun t4 =>
  (f_X12_begins_L23 FU (0 : Int32) t4).bind fun t11 =>
  (f_X12_begins_L64 FU (0 : Int32) t11).bind fun t18 =>
  (ag t18 77 2 (t18.1 67 18)).bind fun v20 =>
  (
    if v20 = 0 then
      some (-2 : Int32)
    else
      (ag t18 88 2 (t18.1 67 18)).bind fun v23 =>
      some v23
  ).bind fun t21 =>
  (pg t18 104 48 (46 : Int32) t21).bind fun M24 =>
  (ag M24 90 2 (M24.1 67 18)).bind fun v25 =>
  lt (sI M24 67 55 v25) fun M26 =>
  lt (sI M26 67 56 (0 : Int32)) fun M27 =>
  some M27
set_option maxHeartbeats 1000000 in
set_option maxRecDepth 20000 in
theorem t_X12_begins_L2 {g : GG} {d : Nat} {P : PT} {res : Option RS} (hd : 1 ≤ d)  (hP : IsM g iX12_begins d res P) : ∀ (fu : Nat) (l1 : Int32) (M : Mem) (t : Mem), f_X12_begins_L2 fu l1 M = some t → P 21 [some (.ref 67), none] [] LAY t → P 2 [some (.ref 67), some (.int l1)] [] LAY M := by
  have hd1 : 1 ≤ d := by omega
  intro fu
  induction fu with
  | zero => intro l1 M t hf; simp [f_X12_begins_L2] at hf
  | succ fu ih =>
    intro l1 M t hf hx
    rw [f_X12_begins_L2] at hf
    refine x_iload_n hP dX12_begins_2 rfl ?_
    refine x_bipush hP dX12_begins_3 (v := 48) rfl ?_
    refine x_icmp_ge hP dX12_begins_5 (tgt := 21) (by decide) (fun c1 => ?_) (fun c1 => ?_)
    · replace hf := p_t c1 hf
      refine x_drop hP [some (.ref 67), none] (And.intro rfl trivial) ?_
      cases hf
      exact hx
    · replace hf := p_f c1 hf
      refine x_aload_n hP dX12_begins_8 rfl ?_
      refine x_getA hP fX12_128 lay67 (r := 104) rfl dX12_begins_9 ?_
      refine x_iload_n hP dX12_begins_12 rfl ?_
      refine x_iconst hP dX12_begins_13 (v := 0) rfl ?_
      obtain ⟨M2, hiM2, hM2, hf⟩ := b_pg hf
      refine y_ast hP lay104 hiM2 hM2 dX12_begins_14 ?_
      obtain ⟨v3, hv3, hf⟩ := b_lt hf
      refine x_iinc hP (v := v3) (ls2 := [some (.ref 67), some (.int v3)]) dX12_begins_15 rfl (by rw [hv3]; rfl) rfl rfl ?_
      refine x_goto hP dX12_begins_18 (tgt := 2) (by decide) ?_
      refine x_drop hP [some (.ref 67), some (.int v3)] (And.intro rfl (And.intro rfl trivial)) ?_
      exact ih _ _ _ hf hx
set_option maxHeartbeats 1000000 in
set_option maxRecDepth 20000 in
theorem t_X12_begins_L23 {g : GG} {d : Nat} {P : PT} {res : Option RS} (hd : 1 ≤ d)  (hP : IsM g iX12_begins d res P) : ∀ (fu : Nat) (l1 : Int32) (M : Mem) (t : Mem), f_X12_begins_L23 fu l1 M = some t → P 62 [some (.ref 67), none] [] LAY t → P 23 [some (.ref 67), some (.int l1)] [] LAY M := by
  have hd1 : 1 ≤ d := by omega
  intro fu
  induction fu with
  | zero => intro l1 M t hf; simp [f_X12_begins_L23] at hf
  | succ fu ih =>
    intro l1 M t hf hx
    rw [f_X12_begins_L23] at hf
    refine x_iload_n hP dX12_begins_23 rfl ?_
    refine x_aload_n hP dX12_begins_24 rfl ?_
    refine x_getA hP fX12_61 lay67 (r := 82) rfl dX12_begins_25 ?_
    refine x_aload_n hP dX12_begins_28 rfl ?_
    refine x_getI hP fX12_251 lay67 dX12_begins_29 ?_
    obtain ⟨v6, hiv6, hv6, hf⟩ := b_ag hf
    refine y_ald hP lay82 hiv6 hv6 dX12_begins_32 ?_
    refine x_icmp_ge hP dX12_begins_33 (tgt := 62) (by decide) (fun c7 => ?_) (fun c7 => ?_)
    · replace hf := p_t c7 hf
      refine x_drop hP [some (.ref 67), none] (And.intro rfl trivial) ?_
      cases hf
      exact hx
    · replace hf := p_f c7 hf
      refine x_aload_n hP dX12_begins_36 rfl ?_
      refine x_getA hP fX12_128 lay67 (r := 104) rfl dX12_begins_37 ?_
      refine x_iload_n hP dX12_begins_40 rfl ?_
      refine x_aload_n hP dX12_begins_41 rfl ?_
      refine x_getA hP fX12_70 lay67 (r := 85) rfl dX12_begins_42 ?_
      refine x_bipush hP dX12_begins_45 (v := 6) rfl ?_
      refine x_aload_n hP dX12_begins_47 rfl ?_
      refine x_getI hP fX12_251 lay67 dX12_begins_48 ?_
      refine x_imul hP dX12_begins_51 ?_
      refine x_iload_n hP dX12_begins_52 rfl ?_
      refine x_iadd hP dX12_begins_53 ?_
      obtain ⟨v8, hiv8, hv8, hf⟩ := b_ag hf
      refine y_ald hP lay85 hiv8 hv8 dX12_begins_54 ?_
      obtain ⟨M9, hiM9, hM9, hf⟩ := b_pg hf
      refine y_ast hP lay104 hiM9 hM9 dX12_begins_55 ?_
      obtain ⟨v10, hv10, hf⟩ := b_lt hf
      refine x_iinc hP (v := v10) (ls2 := [some (.ref 67), some (.int v10)]) dX12_begins_56 rfl (by rw [hv10]; rfl) rfl rfl ?_
      refine x_goto hP dX12_begins_59 (tgt := 23) (by decide) ?_
      refine x_drop hP [some (.ref 67), some (.int v10)] (And.intro rfl (And.intro rfl trivial)) ?_
      exact ih _ _ _ hf hx
set_option maxHeartbeats 1000000 in
set_option maxRecDepth 20000 in
theorem t_X12_begins_L64 {g : GG} {d : Nat} {P : PT} {res : Option RS} (hd : 1 ≤ d)  (hP : IsM g iX12_begins d res P) : ∀ (fu : Nat) (l1 : Int32) (M : Mem) (t : Mem), f_X12_begins_L64 fu l1 M = some t → P 105 [some (.ref 67), none] [] LAY t → P 64 [some (.ref 67), some (.int l1)] [] LAY M := by
  have hd1 : 1 ≤ d := by omega
  intro fu
  induction fu with
  | zero => intro l1 M t hf; simp [f_X12_begins_L64] at hf
  | succ fu ih =>
    intro l1 M t hf hx
    rw [f_X12_begins_L64] at hf
    refine x_iload_n hP dX12_begins_64 rfl ?_
    refine x_aload_n hP dX12_begins_65 rfl ?_
    refine x_getA hP fX12_73 lay67 (r := 86) rfl dX12_begins_66 ?_
    refine x_aload_n hP dX12_begins_69 rfl ?_
    refine x_getI hP fX12_251 lay67 dX12_begins_70 ?_
    obtain ⟨v13, hiv13, hv13, hf⟩ := b_ag hf
    refine y_ald hP lay86 hiv13 hv13 dX12_begins_73 ?_
    refine x_icmp_ge hP dX12_begins_74 (tgt := 105) (by decide) (fun c14 => ?_) (fun c14 => ?_)
    · replace hf := p_t c14 hf
      refine x_drop hP [some (.ref 67), none] (And.intro rfl trivial) ?_
      cases hf
      exact hx
    · replace hf := p_f c14 hf
      refine x_aload_n hP dX12_begins_77 rfl ?_
      refine x_getA hP fX12_128 lay67 (r := 104) rfl dX12_begins_78 ?_
      refine x_bipush hP dX12_begins_81 (v := 36) rfl ?_
      refine x_iload_n hP dX12_begins_83 rfl ?_
      refine x_iadd hP dX12_begins_84 ?_
      refine x_aload_n hP dX12_begins_85 rfl ?_
      refine x_getA hP fX12_76 lay67 (r := 87) rfl dX12_begins_86 ?_
      refine x_iconst hP dX12_begins_89 (v := 5) rfl ?_
      refine x_aload_n hP dX12_begins_90 rfl ?_
      refine x_getI hP fX12_251 lay67 dX12_begins_91 ?_
      refine x_imul hP dX12_begins_94 ?_
      refine x_iload_n hP dX12_begins_95 rfl ?_
      refine x_iadd hP dX12_begins_96 ?_
      obtain ⟨v15, hiv15, hv15, hf⟩ := b_ag hf
      refine y_ald hP lay87 hiv15 hv15 dX12_begins_97 ?_
      obtain ⟨M16, hiM16, hM16, hf⟩ := b_pg hf
      refine y_ast hP lay104 hiM16 hM16 dX12_begins_98 ?_
      obtain ⟨v17, hv17, hf⟩ := b_lt hf
      refine x_iinc hP (v := v17) (ls2 := [some (.ref 67), some (.int v17)]) dX12_begins_99 rfl (by rw [hv17]; rfl) rfl rfl ?_
      refine x_goto hP dX12_begins_102 (tgt := 64) (by decide) ?_
      refine x_drop hP [some (.ref 67), some (.int v17)] (And.intro rfl (And.intro rfl trivial)) ?_
      exact ih _ _ _ hf hx
set_option maxHeartbeats 1000000 in
set_option maxRecDepth 20000 in
theorem t_X12_begins {g : GG} {d : Nat} (hd : 1 ≤ d) {M : Mem} {M' : Mem} (hf : f_X12_begins M = some M') : ExM g d iX12_begins [.ref 67] LAY M (none, LAY, M') := by
  have hd1 : 1 ≤ d := by omega
  refine ExM.main pnX12 rfl (ls := [some (.ref 67), none]) rfl ?_
  intro P hP
  rw [f_X12_begins] at hf
  refine x_iconst hP dX12_begins_0 (v := 0) rfl ?_
  refine x_istore_n hP (ls2 := [some (.ref 67), some (.int (0 : Int32))]) dX12_begins_1 rfl rfl rfl ?_
  refine x_drop hP [some (.ref 67), some (.int (0 : Int32))] (And.intro rfl (And.intro rfl trivial)) ?_
  obtain ⟨t4, hl5, hf⟩ := b_bd hf
  refine t_X12_begins_L2 hd hP _ _ _ _ hl5 ?_
  refine x_iconst hP dX12_begins_21 (v := 0) rfl ?_
  refine x_istore_n hP (ls2 := [some (.ref 67), some (.int (0 : Int32))]) dX12_begins_22 rfl rfl rfl ?_
  refine x_drop hP [some (.ref 67), some (.int (0 : Int32))] (And.intro rfl (And.intro rfl trivial)) ?_
  obtain ⟨t11, hl12, hf⟩ := b_bd hf
  refine t_X12_begins_L23 hd hP _ _ _ _ hl12 ?_
  refine x_iconst hP dX12_begins_62 (v := 0) rfl ?_
  refine x_istore_n hP (ls2 := [some (.ref 67), some (.int (0 : Int32))]) dX12_begins_63 rfl rfl rfl ?_
  refine x_drop hP [some (.ref 67), some (.int (0 : Int32))] (And.intro rfl (And.intro rfl trivial)) ?_
  obtain ⟨t18, hl19, hf⟩ := b_bd hf
  refine t_X12_begins_L64 hd hP _ _ _ _ hl19 ?_
  refine x_aload_n hP dX12_begins_105 rfl ?_
  refine x_getA hP fX12_128 lay67 (r := 104) rfl dX12_begins_106 ?_
  refine x_bipush hP dX12_begins_109 (v := 46) rfl ?_
  refine x_aload_n hP dX12_begins_111 rfl ?_
  refine x_getA hP fX12_46 lay67 (r := 77) rfl dX12_begins_112 ?_
  refine x_aload_n hP dX12_begins_115 rfl ?_
  refine x_getI hP fX12_251 lay67 dX12_begins_116 ?_
  obtain ⟨v20, hiv20, hv20, hf⟩ := b_ag hf
  refine y_ald hP lay77 hiv20 hv20 dX12_begins_119 ?_
  obtain ⟨t21, het21, hf⟩ := b_bd hf
  have hj21 : P 137 [some (.ref 67), none] [.int t21, .int (46 : Int32), .ref 104] LAY t18 := by
    obtain ⟨M24, hiM24, hM24, hf⟩ := b_pg hf
    refine y_ast hP lay104 hiM24 hM24 dX12_begins_137 ?_
    refine x_aload_n hP dX12_begins_138 rfl ?_
    refine x_aload_n hP dX12_begins_139 rfl ?_
    refine x_getA hP fX12_85 lay67 (r := 90) rfl dX12_begins_140 ?_
    refine x_aload_n hP dX12_begins_143 rfl ?_
    refine x_getI hP fX12_251 lay67 dX12_begins_144 ?_
    obtain ⟨v25, hiv25, hv25, hf⟩ := b_ag hf
    refine y_ald hP lay90 hiv25 hv25 dX12_begins_147 ?_
    obtain ⟨M26, hM26, hf⟩ := b_lt hf
    refine y_putI hP fX12_341 lay67 hM26 dX12_begins_148 ?_
    refine x_aload_n hP dX12_begins_151 rfl ?_
    refine x_iconst hP dX12_begins_152 (v := 0) rfl ?_
    obtain ⟨M27, hM27, hf⟩ := b_lt hf
    refine y_putZ hP fX12_344 (Or.inl rfl) lay67 hM27 dX12_begins_153 ?_
    cases hf
    exact x_vret hP rfl dX12_begins_156
  clear hf
  have hf := het21
  clear het21
  refine x_if_ne hP dX12_begins_120 (tgt := 128) (by decide) (fun c22 => ?_) (fun c22 => ?_)
  · replace hf := p_f c22 hf
    refine x_aload_n hP dX12_begins_128 rfl ?_
    refine x_getA hP fX12_79 lay67 (r := 88) rfl dX12_begins_129 ?_
    refine x_aload_n hP dX12_begins_132 rfl ?_
    refine x_getI hP fX12_251 lay67 dX12_begins_133 ?_
    obtain ⟨v23, hiv23, hv23, hf⟩ := b_ag hf
    refine y_ald hP lay88 hiv23 hv23 dX12_begins_136 ?_
    refine x_drop hP [some (.ref 67), none] (And.intro rfl trivial) ?_
    cases hf
    exact hj21
  · replace hf := p_t c22 hf
    refine x_bipush hP dX12_begins_123 (v := (-2)) rfl ?_
    refine x_goto hP dX12_begins_125 (tgt := 137) (by decide) ?_
    refine x_drop hP [some (.ref 67), none] (And.intro rfl trivial) ?_
    cases hf
    exact hj21
set_option maxHeartbeats 1000000 in
set_option maxRecDepth 20000 in
theorem u_X12_begins_L2 {g : GG} {L : List Lay} {d : Nat} {P : PT} {res : Option RS} (hd : 1 ≤ d) (hA : ∀ (id : Nat) (y : Lay), LAY[id]? = some y → 67 ≤ id ∧ id < 118 → L[id]? = some y)  (hP : IsW g iX12_begins d L.length (szL L) res P) : ∀ (fu : Nat) (l1 : Int32) (M : Mem) (t : Mem), f_X12_begins_L2 fu l1 M = some t → P 21 [some (.ref 67), none] [] L t → P 2 [some (.ref 67), some (.int l1)] [] L M := by
  have hd1 : 1 ≤ d := by omega
  intro fu
  induction fu with
  | zero => intro l1 M t hf; simp [f_X12_begins_L2] at hf
  | succ fu ih =>
    intro l1 M t hf hx
    rw [f_X12_begins_L2] at hf
    refine x_iload_n hP dX12_begins_2 rfl ?_
    refine x_bipush hP dX12_begins_3 (v := 48) rfl ?_
    refine x_icmp_ge hP dX12_begins_5 (tgt := 21) (by decide) (fun c1 => ?_) (fun c1 => ?_)
    · replace hf := p_t c1 hf
      refine x_drop hP [some (.ref 67), none] (And.intro rfl trivial) ?_
      cases hf
      exact hx
    · replace hf := p_f c1 hf
      refine x_aload_n hP dX12_begins_8 rfl ?_
      refine x_getA hP fX12_128 (hA _ _ lay67 (by decide)) (r := 104) rfl dX12_begins_9 ?_
      refine x_iload_n hP dX12_begins_12 rfl ?_
      refine x_iconst hP dX12_begins_13 (v := 0) rfl ?_
      obtain ⟨M2, hiM2, hM2, hf⟩ := b_pg hf
      refine y_ast hP (hA _ _ lay104 (by decide)) hiM2 hM2 dX12_begins_14 ?_
      obtain ⟨v3, hv3, hf⟩ := b_lt hf
      refine x_iinc hP (v := v3) (ls2 := [some (.ref 67), some (.int v3)]) dX12_begins_15 rfl (by rw [hv3]; rfl) rfl rfl ?_
      refine x_goto hP dX12_begins_18 (tgt := 2) (by decide) ?_
      refine x_drop hP [some (.ref 67), some (.int v3)] (And.intro rfl (And.intro rfl trivial)) ?_
      exact ih _ _ _ hf hx
set_option maxHeartbeats 1000000 in
set_option maxRecDepth 20000 in
theorem u_X12_begins_L23 {g : GG} {L : List Lay} {d : Nat} {P : PT} {res : Option RS} (hd : 1 ≤ d) (hA : ∀ (id : Nat) (y : Lay), LAY[id]? = some y → 67 ≤ id ∧ id < 118 → L[id]? = some y)  (hP : IsW g iX12_begins d L.length (szL L) res P) : ∀ (fu : Nat) (l1 : Int32) (M : Mem) (t : Mem), f_X12_begins_L23 fu l1 M = some t → P 62 [some (.ref 67), none] [] L t → P 23 [some (.ref 67), some (.int l1)] [] L M := by
  have hd1 : 1 ≤ d := by omega
  intro fu
  induction fu with
  | zero => intro l1 M t hf; simp [f_X12_begins_L23] at hf
  | succ fu ih =>
    intro l1 M t hf hx
    rw [f_X12_begins_L23] at hf
    refine x_iload_n hP dX12_begins_23 rfl ?_
    refine x_aload_n hP dX12_begins_24 rfl ?_
    refine x_getA hP fX12_61 (hA _ _ lay67 (by decide)) (r := 82) rfl dX12_begins_25 ?_
    refine x_aload_n hP dX12_begins_28 rfl ?_
    refine x_getI hP fX12_251 (hA _ _ lay67 (by decide)) dX12_begins_29 ?_
    obtain ⟨v6, hiv6, hv6, hf⟩ := b_ag hf
    refine y_ald hP (hA _ _ lay82 (by decide)) hiv6 hv6 dX12_begins_32 ?_
    refine x_icmp_ge hP dX12_begins_33 (tgt := 62) (by decide) (fun c7 => ?_) (fun c7 => ?_)
    · replace hf := p_t c7 hf
      refine x_drop hP [some (.ref 67), none] (And.intro rfl trivial) ?_
      cases hf
      exact hx
    · replace hf := p_f c7 hf
      refine x_aload_n hP dX12_begins_36 rfl ?_
      refine x_getA hP fX12_128 (hA _ _ lay67 (by decide)) (r := 104) rfl dX12_begins_37 ?_
      refine x_iload_n hP dX12_begins_40 rfl ?_
      refine x_aload_n hP dX12_begins_41 rfl ?_
      refine x_getA hP fX12_70 (hA _ _ lay67 (by decide)) (r := 85) rfl dX12_begins_42 ?_
      refine x_bipush hP dX12_begins_45 (v := 6) rfl ?_
      refine x_aload_n hP dX12_begins_47 rfl ?_
      refine x_getI hP fX12_251 (hA _ _ lay67 (by decide)) dX12_begins_48 ?_
      refine x_imul hP dX12_begins_51 ?_
      refine x_iload_n hP dX12_begins_52 rfl ?_
      refine x_iadd hP dX12_begins_53 ?_
      obtain ⟨v8, hiv8, hv8, hf⟩ := b_ag hf
      refine y_ald hP (hA _ _ lay85 (by decide)) hiv8 hv8 dX12_begins_54 ?_
      obtain ⟨M9, hiM9, hM9, hf⟩ := b_pg hf
      refine y_ast hP (hA _ _ lay104 (by decide)) hiM9 hM9 dX12_begins_55 ?_
      obtain ⟨v10, hv10, hf⟩ := b_lt hf
      refine x_iinc hP (v := v10) (ls2 := [some (.ref 67), some (.int v10)]) dX12_begins_56 rfl (by rw [hv10]; rfl) rfl rfl ?_
      refine x_goto hP dX12_begins_59 (tgt := 23) (by decide) ?_
      refine x_drop hP [some (.ref 67), some (.int v10)] (And.intro rfl (And.intro rfl trivial)) ?_
      exact ih _ _ _ hf hx
set_option maxHeartbeats 1000000 in
set_option maxRecDepth 20000 in
theorem u_X12_begins_L64 {g : GG} {L : List Lay} {d : Nat} {P : PT} {res : Option RS} (hd : 1 ≤ d) (hA : ∀ (id : Nat) (y : Lay), LAY[id]? = some y → 67 ≤ id ∧ id < 118 → L[id]? = some y)  (hP : IsW g iX12_begins d L.length (szL L) res P) : ∀ (fu : Nat) (l1 : Int32) (M : Mem) (t : Mem), f_X12_begins_L64 fu l1 M = some t → P 105 [some (.ref 67), none] [] L t → P 64 [some (.ref 67), some (.int l1)] [] L M := by
  have hd1 : 1 ≤ d := by omega
  intro fu
  induction fu with
  | zero => intro l1 M t hf; simp [f_X12_begins_L64] at hf
  | succ fu ih =>
    intro l1 M t hf hx
    rw [f_X12_begins_L64] at hf
    refine x_iload_n hP dX12_begins_64 rfl ?_
    refine x_aload_n hP dX12_begins_65 rfl ?_
    refine x_getA hP fX12_73 (hA _ _ lay67 (by decide)) (r := 86) rfl dX12_begins_66 ?_
    refine x_aload_n hP dX12_begins_69 rfl ?_
    refine x_getI hP fX12_251 (hA _ _ lay67 (by decide)) dX12_begins_70 ?_
    obtain ⟨v13, hiv13, hv13, hf⟩ := b_ag hf
    refine y_ald hP (hA _ _ lay86 (by decide)) hiv13 hv13 dX12_begins_73 ?_
    refine x_icmp_ge hP dX12_begins_74 (tgt := 105) (by decide) (fun c14 => ?_) (fun c14 => ?_)
    · replace hf := p_t c14 hf
      refine x_drop hP [some (.ref 67), none] (And.intro rfl trivial) ?_
      cases hf
      exact hx
    · replace hf := p_f c14 hf
      refine x_aload_n hP dX12_begins_77 rfl ?_
      refine x_getA hP fX12_128 (hA _ _ lay67 (by decide)) (r := 104) rfl dX12_begins_78 ?_
      refine x_bipush hP dX12_begins_81 (v := 36) rfl ?_
      refine x_iload_n hP dX12_begins_83 rfl ?_
      refine x_iadd hP dX12_begins_84 ?_
      refine x_aload_n hP dX12_begins_85 rfl ?_
      refine x_getA hP fX12_76 (hA _ _ lay67 (by decide)) (r := 87) rfl dX12_begins_86 ?_
      refine x_iconst hP dX12_begins_89 (v := 5) rfl ?_
      refine x_aload_n hP dX12_begins_90 rfl ?_
      refine x_getI hP fX12_251 (hA _ _ lay67 (by decide)) dX12_begins_91 ?_
      refine x_imul hP dX12_begins_94 ?_
      refine x_iload_n hP dX12_begins_95 rfl ?_
      refine x_iadd hP dX12_begins_96 ?_
      obtain ⟨v15, hiv15, hv15, hf⟩ := b_ag hf
      refine y_ald hP (hA _ _ lay87 (by decide)) hiv15 hv15 dX12_begins_97 ?_
      obtain ⟨M16, hiM16, hM16, hf⟩ := b_pg hf
      refine y_ast hP (hA _ _ lay104 (by decide)) hiM16 hM16 dX12_begins_98 ?_
      obtain ⟨v17, hv17, hf⟩ := b_lt hf
      refine x_iinc hP (v := v17) (ls2 := [some (.ref 67), some (.int v17)]) dX12_begins_99 rfl (by rw [hv17]; rfl) rfl rfl ?_
      refine x_goto hP dX12_begins_102 (tgt := 64) (by decide) ?_
      refine x_drop hP [some (.ref 67), some (.int v17)] (And.intro rfl (And.intro rfl trivial)) ?_
      exact ih _ _ _ hf hx
set_option maxHeartbeats 1000000 in
set_option maxRecDepth 20000 in
theorem u_X12_begins {g : GG} {L : List Lay} {d : Nat} (hd : 1 ≤ d) (hA : ∀ (id : Nat) (y : Lay), LAY[id]? = some y → 67 ≤ id ∧ id < 118 → L[id]? = some y) {M : Mem} {M' : Mem} (hf : f_X12_begins M = some M') : ExM g d iX12_begins [.ref 67] L M (none, L, M') := by
  have hd1 : 1 ≤ d := by omega
  refine ExM.main pnX12 rfl (ls := [some (.ref 67), none]) rfl ?_
  intro P hP
  rw [f_X12_begins] at hf
  refine x_iconst hP dX12_begins_0 (v := 0) rfl ?_
  refine x_istore_n hP (ls2 := [some (.ref 67), some (.int (0 : Int32))]) dX12_begins_1 rfl rfl rfl ?_
  refine x_drop hP [some (.ref 67), some (.int (0 : Int32))] (And.intro rfl (And.intro rfl trivial)) ?_
  obtain ⟨t4, hl5, hf⟩ := b_bd hf
  refine u_X12_begins_L2 hd hA hP _ _ _ _ hl5 ?_
  refine x_iconst hP dX12_begins_21 (v := 0) rfl ?_
  refine x_istore_n hP (ls2 := [some (.ref 67), some (.int (0 : Int32))]) dX12_begins_22 rfl rfl rfl ?_
  refine x_drop hP [some (.ref 67), some (.int (0 : Int32))] (And.intro rfl (And.intro rfl trivial)) ?_
  obtain ⟨t11, hl12, hf⟩ := b_bd hf
  refine u_X12_begins_L23 hd hA hP _ _ _ _ hl12 ?_
  refine x_iconst hP dX12_begins_62 (v := 0) rfl ?_
  refine x_istore_n hP (ls2 := [some (.ref 67), some (.int (0 : Int32))]) dX12_begins_63 rfl rfl rfl ?_
  refine x_drop hP [some (.ref 67), some (.int (0 : Int32))] (And.intro rfl (And.intro rfl trivial)) ?_
  obtain ⟨t18, hl19, hf⟩ := b_bd hf
  refine u_X12_begins_L64 hd hA hP _ _ _ _ hl19 ?_
  refine x_aload_n hP dX12_begins_105 rfl ?_
  refine x_getA hP fX12_128 (hA _ _ lay67 (by decide)) (r := 104) rfl dX12_begins_106 ?_
  refine x_bipush hP dX12_begins_109 (v := 46) rfl ?_
  refine x_aload_n hP dX12_begins_111 rfl ?_
  refine x_getA hP fX12_46 (hA _ _ lay67 (by decide)) (r := 77) rfl dX12_begins_112 ?_
  refine x_aload_n hP dX12_begins_115 rfl ?_
  refine x_getI hP fX12_251 (hA _ _ lay67 (by decide)) dX12_begins_116 ?_
  obtain ⟨v20, hiv20, hv20, hf⟩ := b_ag hf
  refine y_ald hP (hA _ _ lay77 (by decide)) hiv20 hv20 dX12_begins_119 ?_
  obtain ⟨t21, het21, hf⟩ := b_bd hf
  have hj21 : P 137 [some (.ref 67), none] [.int t21, .int (46 : Int32), .ref 104] L t18 := by
    obtain ⟨M24, hiM24, hM24, hf⟩ := b_pg hf
    refine y_ast hP (hA _ _ lay104 (by decide)) hiM24 hM24 dX12_begins_137 ?_
    refine x_aload_n hP dX12_begins_138 rfl ?_
    refine x_aload_n hP dX12_begins_139 rfl ?_
    refine x_getA hP fX12_85 (hA _ _ lay67 (by decide)) (r := 90) rfl dX12_begins_140 ?_
    refine x_aload_n hP dX12_begins_143 rfl ?_
    refine x_getI hP fX12_251 (hA _ _ lay67 (by decide)) dX12_begins_144 ?_
    obtain ⟨v25, hiv25, hv25, hf⟩ := b_ag hf
    refine y_ald hP (hA _ _ lay90 (by decide)) hiv25 hv25 dX12_begins_147 ?_
    obtain ⟨M26, hM26, hf⟩ := b_lt hf
    refine y_putI hP fX12_341 (hA _ _ lay67 (by decide)) hM26 dX12_begins_148 ?_
    refine x_aload_n hP dX12_begins_151 rfl ?_
    refine x_iconst hP dX12_begins_152 (v := 0) rfl ?_
    obtain ⟨M27, hM27, hf⟩ := b_lt hf
    refine y_putZ hP fX12_344 (Or.inl rfl) (hA _ _ lay67 (by decide)) hM27 dX12_begins_153 ?_
    cases hf
    exact x_vret hP rfl dX12_begins_156
  clear hf
  have hf := het21
  clear het21
  refine x_if_ne hP dX12_begins_120 (tgt := 128) (by decide) (fun c22 => ?_) (fun c22 => ?_)
  · replace hf := p_f c22 hf
    refine x_aload_n hP dX12_begins_128 rfl ?_
    refine x_getA hP fX12_79 (hA _ _ lay67 (by decide)) (r := 88) rfl dX12_begins_129 ?_
    refine x_aload_n hP dX12_begins_132 rfl ?_
    refine x_getI hP fX12_251 (hA _ _ lay67 (by decide)) dX12_begins_133 ?_
    obtain ⟨v23, hiv23, hv23, hf⟩ := b_ag hf
    refine y_ald hP (hA _ _ lay88 (by decide)) hiv23 hv23 dX12_begins_136 ?_
    refine x_drop hP [some (.ref 67), none] (And.intro rfl trivial) ?_
    cases hf
    exact hj21
  · replace hf := p_t c22 hf
    refine x_bipush hP dX12_begins_123 (v := (-2)) rfl ?_
    refine x_goto hP dX12_begins_125 (tgt := 137) (by decide) ?_
    refine x_drop hP [some (.ref 67), none] (And.intro rfl trivial) ?_
    cases hf
    exact hj21
def f_X12_keepsRow_L2 : Nat → Int32 → Mem → Option (Mem)
  | 0, _, _ => none
  | fu + 1, l1, M =>
    if (48 : Int32) ≤ l1 then
      some M
    else
      (ag M 104 48 l1).bind fun v2 =>
      (pg M 103 48 l1 v2).bind fun M3 =>
      lt (l1 + 1 : Int32) fun v4 =>
      f_X12_keepsRow_L2 fu v4 M3
def f_X12_keepsRow (M : Mem) : Option (Mem) :=
  (f_X12_keepsRow_L2 FU (0 : Int32) M).bind fun t5 =>
  some t5
set_option maxHeartbeats 1000000 in
set_option maxRecDepth 20000 in
theorem t_X12_keepsRow_L2 {g : GG} {d : Nat} {P : PT} {res : Option RS} (hd : 1 ≤ d)  (hP : IsM g iX12_keepsRow d res P) : ∀ (fu : Nat) (l1 : Int32) (M : Mem) (t : Mem), f_X12_keepsRow_L2 fu l1 M = some t → P 26 [none, none] [] LAY t → P 2 [some (.ref 67), some (.int l1)] [] LAY M := by
  have hd1 : 1 ≤ d := by omega
  intro fu
  induction fu with
  | zero => intro l1 M t hf; simp [f_X12_keepsRow_L2] at hf
  | succ fu ih =>
    intro l1 M t hf hx
    rw [f_X12_keepsRow_L2] at hf
    refine x_iload_n hP dX12_keepsRow_2 rfl ?_
    refine x_bipush hP dX12_keepsRow_3 (v := 48) rfl ?_
    refine x_icmp_ge hP dX12_keepsRow_5 (tgt := 26) (by decide) (fun c1 => ?_) (fun c1 => ?_)
    · replace hf := p_t c1 hf
      refine x_drop hP [none, none] trivial ?_
      cases hf
      exact hx
    · replace hf := p_f c1 hf
      refine x_aload_n hP dX12_keepsRow_8 rfl ?_
      refine x_getA hP fX12_125 lay67 (r := 103) rfl dX12_keepsRow_9 ?_
      refine x_iload_n hP dX12_keepsRow_12 rfl ?_
      refine x_aload_n hP dX12_keepsRow_13 rfl ?_
      refine x_getA hP fX12_128 lay67 (r := 104) rfl dX12_keepsRow_14 ?_
      refine x_iload_n hP dX12_keepsRow_17 rfl ?_
      obtain ⟨v2, hiv2, hv2, hf⟩ := b_ag hf
      refine y_ald hP lay104 hiv2 hv2 dX12_keepsRow_18 ?_
      obtain ⟨M3, hiM3, hM3, hf⟩ := b_pg hf
      refine y_ast hP lay103 hiM3 hM3 dX12_keepsRow_19 ?_
      obtain ⟨v4, hv4, hf⟩ := b_lt hf
      refine x_iinc hP (v := v4) (ls2 := [some (.ref 67), some (.int v4)]) dX12_keepsRow_20 rfl (by rw [hv4]; rfl) rfl rfl ?_
      refine x_goto hP dX12_keepsRow_23 (tgt := 2) (by decide) ?_
      refine x_drop hP [some (.ref 67), some (.int v4)] (And.intro rfl (And.intro rfl trivial)) ?_
      exact ih _ _ _ hf hx
set_option maxHeartbeats 1000000 in
set_option maxRecDepth 20000 in
theorem t_X12_keepsRow {g : GG} {d : Nat} (hd : 1 ≤ d) {M : Mem} {M' : Mem} (hf : f_X12_keepsRow M = some M') : ExM g d iX12_keepsRow [.ref 67] LAY M (none, LAY, M') := by
  have hd1 : 1 ≤ d := by omega
  refine ExM.main pnX12 rfl (ls := [some (.ref 67), none]) rfl ?_
  intro P hP
  rw [f_X12_keepsRow] at hf
  refine x_iconst hP dX12_keepsRow_0 (v := 0) rfl ?_
  refine x_istore_n hP (ls2 := [some (.ref 67), some (.int (0 : Int32))]) dX12_keepsRow_1 rfl rfl rfl ?_
  refine x_drop hP [some (.ref 67), some (.int (0 : Int32))] (And.intro rfl (And.intro rfl trivial)) ?_
  obtain ⟨t5, hl6, hf⟩ := b_bd hf
  refine t_X12_keepsRow_L2 hd hP _ _ _ _ hl6 ?_
  cases hf
  exact x_vret hP rfl dX12_keepsRow_26
set_option maxHeartbeats 1000000 in
set_option maxRecDepth 20000 in
theorem u_X12_keepsRow_L2 {g : GG} {L : List Lay} {d : Nat} {P : PT} {res : Option RS} (hd : 1 ≤ d) (hA : ∀ (id : Nat) (y : Lay), LAY[id]? = some y → 67 ≤ id ∧ id < 118 → L[id]? = some y)  (hP : IsW g iX12_keepsRow d L.length (szL L) res P) : ∀ (fu : Nat) (l1 : Int32) (M : Mem) (t : Mem), f_X12_keepsRow_L2 fu l1 M = some t → P 26 [none, none] [] L t → P 2 [some (.ref 67), some (.int l1)] [] L M := by
  have hd1 : 1 ≤ d := by omega
  intro fu
  induction fu with
  | zero => intro l1 M t hf; simp [f_X12_keepsRow_L2] at hf
  | succ fu ih =>
    intro l1 M t hf hx
    rw [f_X12_keepsRow_L2] at hf
    refine x_iload_n hP dX12_keepsRow_2 rfl ?_
    refine x_bipush hP dX12_keepsRow_3 (v := 48) rfl ?_
    refine x_icmp_ge hP dX12_keepsRow_5 (tgt := 26) (by decide) (fun c1 => ?_) (fun c1 => ?_)
    · replace hf := p_t c1 hf
      refine x_drop hP [none, none] trivial ?_
      cases hf
      exact hx
    · replace hf := p_f c1 hf
      refine x_aload_n hP dX12_keepsRow_8 rfl ?_
      refine x_getA hP fX12_125 (hA _ _ lay67 (by decide)) (r := 103) rfl dX12_keepsRow_9 ?_
      refine x_iload_n hP dX12_keepsRow_12 rfl ?_
      refine x_aload_n hP dX12_keepsRow_13 rfl ?_
      refine x_getA hP fX12_128 (hA _ _ lay67 (by decide)) (r := 104) rfl dX12_keepsRow_14 ?_
      refine x_iload_n hP dX12_keepsRow_17 rfl ?_
      obtain ⟨v2, hiv2, hv2, hf⟩ := b_ag hf
      refine y_ald hP (hA _ _ lay104 (by decide)) hiv2 hv2 dX12_keepsRow_18 ?_
      obtain ⟨M3, hiM3, hM3, hf⟩ := b_pg hf
      refine y_ast hP (hA _ _ lay103 (by decide)) hiM3 hM3 dX12_keepsRow_19 ?_
      obtain ⟨v4, hv4, hf⟩ := b_lt hf
      refine x_iinc hP (v := v4) (ls2 := [some (.ref 67), some (.int v4)]) dX12_keepsRow_20 rfl (by rw [hv4]; rfl) rfl rfl ?_
      refine x_goto hP dX12_keepsRow_23 (tgt := 2) (by decide) ?_
      refine x_drop hP [some (.ref 67), some (.int v4)] (And.intro rfl (And.intro rfl trivial)) ?_
      exact ih _ _ _ hf hx
set_option maxHeartbeats 1000000 in
set_option maxRecDepth 20000 in
theorem u_X12_keepsRow {g : GG} {L : List Lay} {d : Nat} (hd : 1 ≤ d) (hA : ∀ (id : Nat) (y : Lay), LAY[id]? = some y → 67 ≤ id ∧ id < 118 → L[id]? = some y) {M : Mem} {M' : Mem} (hf : f_X12_keepsRow M = some M') : ExM g d iX12_keepsRow [.ref 67] L M (none, L, M') := by
  have hd1 : 1 ≤ d := by omega
  refine ExM.main pnX12 rfl (ls := [some (.ref 67), none]) rfl ?_
  intro P hP
  rw [f_X12_keepsRow] at hf
  refine x_iconst hP dX12_keepsRow_0 (v := 0) rfl ?_
  refine x_istore_n hP (ls2 := [some (.ref 67), some (.int (0 : Int32))]) dX12_keepsRow_1 rfl rfl rfl ?_
  refine x_drop hP [some (.ref 67), some (.int (0 : Int32))] (And.intro rfl (And.intro rfl trivial)) ?_
  obtain ⟨t5, hl6, hf⟩ := b_bd hf
  refine u_X12_keepsRow_L2 hd hA hP _ _ _ _ hl6 ?_
  cases hf
  exact x_vret hP rfl dX12_keepsRow_26
def f_X12_read_L10 : Nat → Int32 → Mem → Option (Mem)
  | 0, _, _ => none
  | fu + 1, l1, M =>
    if M.1 67 4 ≤ l1 then
      some M
    else
      (ag M 68 2000 l1).bind fun v3 =>
      (pb M 69 2000 l1 v3).bind fun M4 =>
      lt (l1 + 1 : Int32) fun v5 =>
      f_X12_read_L10 fu v5 M4
def f_X12_read_L112 : Nat → Mem → Option (Mem)
  | 0, _ => none
  | fu + 1, M =>
    if M.1 67 13 = 0 then
      (f_X12_is (0 : Int32) M).bind fun v23 =>
      if v23 = 0 then
        (f_X12_tellOne M).bind fun M26 =>
        f_X12_read_L112 fu M26
      else
        some M
    else
      some M
def f_X12_read_L219 : Nat → Int32 → Mem → Option (Mem)
  | 0, _, _ => none
  | fu + 1, l1, M =>
    if (3 : Int32) ≤ l1 then
      some M
    else
      (pz M 116 3 l1 (0 : Int32)).bind fun M43 =>
      lt (l1 + 1 : Int32) fun v44 =>
      f_X12_read_L219 fu v44 M43
def f_X12_read (M : Mem) : Option (Int32 × Mem) :=
  lt (sI M 67 4 (M.1 67 2)) fun M1 =>
  (f_X12_read_L10 FU (0 : Int32) M1).bind fun t6 =>
  lt (sI t6 67 2 (0 : Int32)) fun M8 =>
  (f_X12_cutsUp M8).bind fun M10 =>
  lt (sI M10 67 11 (0 : Int32)) fun M11 =>
  lt (sI M11 67 12 (0 : Int32)) fun M12 =>
  lt (sI M12 67 13 (0 : Int32)) fun M13 =>
  lt (sI M13 67 15 (0 : Int32)) fun M14 =>
  lt (sI M14 67 19 ((1 : Int32) - (M14.1 67 18))) fun M15 =>
  lt (sI M15 67 20 (0 : Int32)) fun M16 =>
  (f_X12_plain (M16.1 67 19) M16).bind fun M18 =>
  lt (sI M18 67 39 ((130 : Int32) * (M18.1 67 19))) fun M19 =>
  lt (sI M19 67 45 ((420 : Int32) * (M19.1 67 19))) fun M20 =>
  (f_X12_read_L112 FU M20).bind fun t27 =>
  lt (
    if t27.1 67 13 ≤ 0 then
      if t27.1 67 15 ≤ 0 then
        (-1 : Int32)
      else
        t27.1 67 16
    else
      t27.1 67 14
   : Int32) fun t29 =>
  lt (sI t27 67 17 t29) fun M32 =>
  if M32.1 67 13 ≤ 0 then
    if M32.1 67 15 ≤ 0 then
      lt (sI M32 67 18 (M32.1 67 19)) fun M35 =>
      (f_X12_begins M35).bind fun M37 =>
      (f_X12_keepsRow M37).bind fun M39 =>
      lt (sI M39 67 60 (0 : Int32)) fun M40 =>
      lt (sI M40 67 66 (0 : Int32)) fun M41 =>
      (f_X12_read_L219 FU (0 : Int32) M41).bind fun t45 =>
      some ((0 : Int32), t45)
    else
      some (M32.1 67 15, M32)
  else
    some (M32.1 67 13, M32)
set_option maxHeartbeats 1000000 in
set_option maxRecDepth 20000 in
theorem t_X12_read_L10 {g : GG} {d : Nat} {P : PT} {res : Option RS} (hd : 8 ≤ d)  (hP : IsM g iX12_read d res P) : ∀ (fu : Nat) (l1 : Int32) (M : Mem) (t : Mem), f_X12_read_L10 fu l1 M = some t → P 36 [some (.ref 67), none] [] LAY t → P 10 [some (.ref 67), some (.int l1)] [] LAY M := by
  have hd1 : 1 ≤ d := by omega
  intro fu
  induction fu with
  | zero => intro l1 M t hf; simp [f_X12_read_L10] at hf
  | succ fu ih =>
    intro l1 M t hf hx
    rw [f_X12_read_L10] at hf
    refine x_iload_n hP dX12_read_10 rfl ?_
    refine x_aload_n hP dX12_read_11 rfl ?_
    refine x_getI hP fX12_190 lay67 dX12_read_12 ?_
    refine x_icmp_ge hP dX12_read_15 (tgt := 36) (by decide) (fun c2 => ?_) (fun c2 => ?_)
    · replace hf := p_t c2 hf
      refine x_drop hP [some (.ref 67), none] (And.intro rfl trivial) ?_
      cases hf
      exact hx
    · replace hf := p_f c2 hf
      refine x_aload_n hP dX12_read_18 rfl ?_
      refine x_getA hP fX12_17 lay67 (r := 69) rfl dX12_read_19 ?_
      refine x_iload_n hP dX12_read_22 rfl ?_
      refine x_aload_n hP dX12_read_23 rfl ?_
      refine x_getA hP fX12_13 lay67 (r := 68) rfl dX12_read_24 ?_
      refine x_iload_n hP dX12_read_27 rfl ?_
      obtain ⟨v3, hiv3, hv3, hf⟩ := b_ag hf
      refine y_bld hP lay68 hiv3 hv3 dX12_read_28 ?_
      obtain ⟨M4, hiM4, hM4, hf⟩ := b_pb hf
      refine y_bst hP lay69 hiM4 hM4 dX12_read_29 ?_
      obtain ⟨v5, hv5, hf⟩ := b_lt hf
      refine x_iinc hP (v := v5) (ls2 := [some (.ref 67), some (.int v5)]) dX12_read_30 rfl (by rw [hv5]; rfl) rfl rfl ?_
      refine x_goto hP dX12_read_33 (tgt := 10) (by decide) ?_
      refine x_drop hP [some (.ref 67), some (.int v5)] (And.intro rfl (And.intro rfl trivial)) ?_
      exact ih _ _ _ hf hx
set_option maxHeartbeats 1000000 in
set_option maxRecDepth 20000 in
theorem t_X12_read_L112 {g : GG} {d : Nat} {P : PT} {res : Option RS} (hd : 8 ≤ d)  (hP : IsM g iX12_read d res P) : ∀ (fu : Nat) (M : Mem) (t : Mem), f_X12_read_L112 fu M = some t → P 134 [some (.ref 67), none] [] LAY t → P 112 [some (.ref 67), none] [] LAY M := by
  have hd1 : 1 ≤ d := by omega
  intro fu
  induction fu with
  | zero => intro M t hf; simp [f_X12_read_L112] at hf
  | succ fu ih =>
    intro M t hf hx
    rw [f_X12_read_L112] at hf
    refine x_aload_n hP dX12_read_112 rfl ?_
    refine x_getI hP fX12_221 lay67 dX12_read_113 ?_
    refine x_if_ne hP dX12_read_116 (tgt := 134) (by decide) (fun c21 => ?_) (fun c21 => ?_)
    · replace hf := p_f c21 hf
      refine x_drop hP [some (.ref 67), none] (And.intro rfl trivial) ?_
      cases hf
      exact hx
    · replace hf := p_t c21 hf
      refine x_aload_n hP dX12_read_119 rfl ?_
      refine x_iconst hP dX12_read_120 (v := 0) rfl ?_
      obtain ⟨v23, hc22, hf⟩ := b_bd hf
      refine y_cvi hP oX12_is lX12_239 [.int (0 : Int32)] [] rfl rfl rfl lay67 dX12_read_121 (t_X12_is (d := d - 1) (by omega) hc22) (by omega) ?_
      refine x_if_ne hP dX12_read_124 (tgt := 134) (by decide) (fun c24 => ?_) (fun c24 => ?_)
      · replace hf := p_f c24 hf
        refine x_drop hP [some (.ref 67), none] (And.intro rfl trivial) ?_
        cases hf
        exact hx
      · replace hf := p_t c24 hf
        refine x_aload_n hP dX12_read_127 rfl ?_
        obtain ⟨M26, hc25, hf⟩ := b_bd hf
        refine y_cvv hP oX12_tellOne lX12_266 [] [] rfl rfl rfl lay67 dX12_read_128 (t_X12_tellOne (d := d - 1) (by omega) hc25) (by omega) ?_
        refine x_goto hP dX12_read_131 (tgt := 112) (by decide) ?_
        refine x_drop hP [some (.ref 67), none] (And.intro rfl trivial) ?_
        exact ih _ _ hf hx
set_option maxHeartbeats 1000000 in
set_option maxRecDepth 20000 in
theorem t_X12_read_L219 {g : GG} {d : Nat} {P : PT} {res : Option RS} (hd : 8 ≤ d)  (hP : IsM g iX12_read d res P) : ∀ (fu : Nat) (l1 : Int32) (M : Mem) (t : Mem), f_X12_read_L219 fu l1 M = some t → P 237 [none, none] [] LAY t → P 219 [some (.ref 67), some (.int l1)] [] LAY M := by
  have hd1 : 1 ≤ d := by omega
  intro fu
  induction fu with
  | zero => intro l1 M t hf; simp [f_X12_read_L219] at hf
  | succ fu ih =>
    intro l1 M t hf hx
    rw [f_X12_read_L219] at hf
    refine x_iload_n hP dX12_read_219 rfl ?_
    refine x_iconst hP dX12_read_220 (v := 3) rfl ?_
    refine x_icmp_ge hP dX12_read_221 (tgt := 237) (by decide) (fun c42 => ?_) (fun c42 => ?_)
    · replace hf := p_t c42 hf
      refine x_drop hP [none, none] trivial ?_
      cases hf
      exact hx
    · replace hf := p_f c42 hf
      refine x_aload_n hP dX12_read_224 rfl ?_
      refine x_getA hP fX12_164 lay67 (r := 116) rfl dX12_read_225 ?_
      refine x_iload_n hP dX12_read_228 rfl ?_
      refine x_iconst hP dX12_read_229 (v := 0) rfl ?_
      obtain ⟨M43, hiM43, hM43, hf⟩ := b_pz hf
      refine y_zst hP lay116 hiM43 hM43 dX12_read_230 ?_
      obtain ⟨v44, hv44, hf⟩ := b_lt hf
      refine x_iinc hP (v := v44) (ls2 := [some (.ref 67), some (.int v44)]) dX12_read_231 rfl (by rw [hv44]; rfl) rfl rfl ?_
      refine x_goto hP dX12_read_234 (tgt := 219) (by decide) ?_
      refine x_drop hP [some (.ref 67), some (.int v44)] (And.intro rfl (And.intro rfl trivial)) ?_
      exact ih _ _ _ hf hx
set_option maxHeartbeats 1000000 in
set_option maxRecDepth 20000 in
theorem t_X12_read {g : GG} {d : Nat} (hd : 8 ≤ d) {M : Mem} {r : Int32} {M' : Mem} (hf : f_X12_read M = some (r, M')) : ExM g d iX12_read [.ref 67] LAY M (some (.int r), LAY, M') := by
  have hd1 : 1 ≤ d := by omega
  refine ExM.main pnX12 rfl (ls := [some (.ref 67), none]) rfl ?_
  intro P hP
  rw [f_X12_read] at hf
  refine x_aload_n hP dX12_read_0 rfl ?_
  refine x_aload_n hP dX12_read_1 rfl ?_
  refine x_getI hP fX12_184 lay67 dX12_read_2 ?_
  obtain ⟨M1, hM1, hf⟩ := b_lt hf
  refine y_putI hP fX12_190 lay67 hM1 dX12_read_5 ?_
  refine x_iconst hP dX12_read_8 (v := 0) rfl ?_
  refine x_istore_n hP (ls2 := [some (.ref 67), some (.int (0 : Int32))]) dX12_read_9 rfl rfl rfl ?_
  refine x_drop hP [some (.ref 67), some (.int (0 : Int32))] (And.intro rfl (And.intro rfl trivial)) ?_
  obtain ⟨t6, hl7, hf⟩ := b_bd hf
  refine t_X12_read_L10 hd hP _ _ _ _ hl7 ?_
  refine x_aload_n hP dX12_read_36 rfl ?_
  refine x_iconst hP dX12_read_37 (v := 0) rfl ?_
  obtain ⟨M8, hM8, hf⟩ := b_lt hf
  refine y_putI hP fX12_184 lay67 hM8 dX12_read_38 ?_
  refine x_aload_n hP dX12_read_41 rfl ?_
  obtain ⟨M10, hc9, hf⟩ := b_bd hf
  refine y_cvv hP oX12_cutsUp lX12_245 [] [] rfl rfl rfl lay67 dX12_read_42 (t_X12_cutsUp (d := d - 1) (by omega) hc9) (by omega) ?_
  refine x_aload_n hP dX12_read_45 rfl ?_
  refine x_iconst hP dX12_read_46 (v := 0) rfl ?_
  obtain ⟨M11, hM11, hf⟩ := b_lt hf
  refine y_putI hP fX12_224 lay67 hM11 dX12_read_47 ?_
  refine x_aload_n hP dX12_read_50 rfl ?_
  refine x_iconst hP dX12_read_51 (v := 0) rfl ?_
  obtain ⟨M12, hM12, hf⟩ := b_lt hf
  refine y_putI hP fX12_248 lay67 hM12 dX12_read_52 ?_
  refine x_aload_n hP dX12_read_55 rfl ?_
  refine x_iconst hP dX12_read_56 (v := 0) rfl ?_
  obtain ⟨M13, hM13, hf⟩ := b_lt hf
  refine y_putI hP fX12_221 lay67 hM13 dX12_read_57 ?_
  refine x_aload_n hP dX12_read_60 rfl ?_
  refine x_iconst hP dX12_read_61 (v := 0) rfl ?_
  obtain ⟨M14, hM14, hf⟩ := b_lt hf
  refine y_putI hP fX12_230 lay67 hM14 dX12_read_62 ?_
  refine x_aload_n hP dX12_read_65 rfl ?_
  refine x_iconst hP dX12_read_66 (v := 1) rfl ?_
  refine x_aload_n hP dX12_read_67 rfl ?_
  refine x_getI hP fX12_251 lay67 dX12_read_68 ?_
  refine x_isub hP dX12_read_71 ?_
  obtain ⟨M15, hM15, hf⟩ := b_lt hf
  refine y_putI hP fX12_254 lay67 hM15 dX12_read_72 ?_
  refine x_aload_n hP dX12_read_75 rfl ?_
  refine x_iconst hP dX12_read_76 (v := 0) rfl ?_
  obtain ⟨M16, hM16, hf⟩ := b_lt hf
  refine y_putI hP fX12_257 lay67 hM16 dX12_read_77 ?_
  refine x_aload_n hP dX12_read_80 rfl ?_
  refine x_aload_n hP dX12_read_81 rfl ?_
  refine x_getI hP fX12_254 lay67 dX12_read_82 ?_
  obtain ⟨M18, hc17, hf⟩ := b_bd hf
  refine y_cvv hP oX12_plain lX12_170 [.int (M16.1 67 19)] [] rfl rfl rfl lay67 dX12_read_85 (t_X12_plain (d := d - 1) (by omega) hc17) (by omega) ?_
  refine x_aload_n hP dX12_read_88 rfl ?_
  refine x_sipush hP dX12_read_89 (v := 130) rfl ?_
  refine x_aload_n hP dX12_read_92 rfl ?_
  refine x_getI hP fX12_254 lay67 dX12_read_93 ?_
  refine x_imul hP dX12_read_96 ?_
  obtain ⟨M19, hM19, hf⟩ := b_lt hf
  refine y_putI hP fX12_260 lay67 hM19 dX12_read_97 ?_
  refine x_aload_n hP dX12_read_100 rfl ?_
  refine x_sipush hP dX12_read_101 (v := 420) rfl ?_
  refine x_aload_n hP dX12_read_104 rfl ?_
  refine x_getI hP fX12_254 lay67 dX12_read_105 ?_
  refine x_imul hP dX12_read_108 ?_
  obtain ⟨M20, hM20, hf⟩ := b_lt hf
  refine y_putI hP fX12_263 lay67 hM20 dX12_read_109 ?_
  refine x_drop hP [some (.ref 67), none] (And.intro rfl trivial) ?_
  obtain ⟨t27, hl28, hf⟩ := b_bd hf
  refine t_X12_read_L112 hd hP _ _ _ hl28 ?_
  refine x_aload_n hP dX12_read_134 rfl ?_
  refine x_aload_n hP dX12_read_135 rfl ?_
  refine x_getI hP fX12_221 lay67 dX12_read_136 ?_
  obtain ⟨t29, het29, hf⟩ := b_lt hf
  have hj29 : P 164 [some (.ref 67), none] [.int t29, .ref 67] LAY t27 := by
    obtain ⟨M32, hM32, hf⟩ := b_lt hf
    refine y_putI hP fX12_37 lay67 hM32 dX12_read_164 ?_
    refine x_aload_n hP dX12_read_167 rfl ?_
    refine x_getI hP fX12_221 lay67 dX12_read_168 ?_
    refine x_if_le hP dX12_read_171 (tgt := 179) (by decide) (fun c33 => ?_) (fun c33 => ?_)
    · replace hf := p_t c33 hf
      refine x_aload_n hP dX12_read_179 rfl ?_
      refine x_getI hP fX12_230 lay67 dX12_read_180 ?_
      refine x_if_le hP dX12_read_183 (tgt := 191) (by decide) (fun c34 => ?_) (fun c34 => ?_)
      · replace hf := p_t c34 hf
        refine x_aload_n hP dX12_read_191 rfl ?_
        refine x_aload_n hP dX12_read_192 rfl ?_
        refine x_getI hP fX12_254 lay67 dX12_read_193 ?_
        obtain ⟨M35, hM35, hf⟩ := b_lt hf
        refine y_putI hP fX12_251 lay67 hM35 dX12_read_196 ?_
        refine x_aload_n hP dX12_read_199 rfl ?_
        obtain ⟨M37, hc36, hf⟩ := b_bd hf
        refine y_cvv hP oX12_begins lX12_178 [] [] rfl rfl rfl lay67 dX12_read_200 (t_X12_begins (d := d - 1) (by omega) hc36) (by omega) ?_
        refine x_aload_n hP dX12_read_203 rfl ?_
        obtain ⟨M39, hc38, hf⟩ := b_bd hf
        refine y_cvv hP oX12_keepsRow lX12_181 [] [] rfl rfl rfl lay67 dX12_read_204 (t_X12_keepsRow (d := d - 1) (by omega) hc38) (by omega) ?_
        refine x_aload_n hP dX12_read_207 rfl ?_
        refine x_iconst hP dX12_read_208 (v := 0) rfl ?_
        obtain ⟨M40, hM40, hf⟩ := b_lt hf
        refine y_putI hP fX12_269 lay67 hM40 dX12_read_209 ?_
        refine x_aload_n hP dX12_read_212 rfl ?_
        refine x_iconst hP dX12_read_213 (v := 0) rfl ?_
        obtain ⟨M41, hM41, hf⟩ := b_lt hf
        refine y_putI hP fX12_272 lay67 hM41 dX12_read_214 ?_
        refine x_iconst hP dX12_read_217 (v := 0) rfl ?_
        refine x_istore_n hP (ls2 := [some (.ref 67), some (.int (0 : Int32))]) dX12_read_218 rfl rfl rfl ?_
        refine x_drop hP [some (.ref 67), some (.int (0 : Int32))] (And.intro rfl (And.intro rfl trivial)) ?_
        obtain ⟨t45, hl46, hf⟩ := b_bd hf
        refine t_X12_read_L219 hd hP _ _ _ _ hl46 ?_
        refine x_iconst hP dX12_read_237 (v := 0) rfl ?_
        cases hf
        exact x_iret hP rfl dX12_read_238
      · replace hf := p_f c34 hf
        refine x_aload_n hP dX12_read_186 rfl ?_
        refine x_getI hP fX12_230 lay67 dX12_read_187 ?_
        cases hf
        exact x_iret hP rfl dX12_read_190
    · replace hf := p_f c33 hf
      refine x_aload_n hP dX12_read_174 rfl ?_
      refine x_getI hP fX12_221 lay67 dX12_read_175 ?_
      cases hf
      exact x_iret hP rfl dX12_read_178
  clear hf
  have hf := het29
  clear het29
  refine x_if_le hP dX12_read_139 (tgt := 149) (by decide) (fun c30 => ?_) (fun c30 => ?_)
  · replace hf := e_t c30 hf
    refine x_aload_n hP dX12_read_149 rfl ?_
    refine x_getI hP fX12_230 lay67 dX12_read_150 ?_
    refine x_if_le hP dX12_read_153 (tgt := 163) (by decide) (fun c31 => ?_) (fun c31 => ?_)
    · replace hf := e_t c31 hf
      refine x_iconst hP dX12_read_163 (v := (-1)) rfl ?_
      refine x_drop hP [some (.ref 67), none] (And.intro rfl trivial) ?_
      subst hf
      exact hj29
    · replace hf := e_f c31 hf
      refine x_aload_n hP dX12_read_156 rfl ?_
      refine x_getI hP fX12_233 lay67 dX12_read_157 ?_
      refine x_goto hP dX12_read_160 (tgt := 164) (by decide) ?_
      refine x_drop hP [some (.ref 67), none] (And.intro rfl trivial) ?_
      subst hf
      exact hj29
  · replace hf := e_f c30 hf
    refine x_aload_n hP dX12_read_142 rfl ?_
    refine x_getI hP fX12_227 lay67 dX12_read_143 ?_
    refine x_goto hP dX12_read_146 (tgt := 164) (by decide) ?_
    refine x_drop hP [some (.ref 67), none] (And.intro rfl trivial) ?_
    subst hf
    exact hj29
def f_X12_place (M : Mem) : Option (Int32) :=
  some (M.1 67 17)
set_option maxHeartbeats 1000000 in
set_option maxRecDepth 20000 in
theorem t_X12_place {g : GG} {d : Nat} (hd : 1 ≤ d) {M : Mem} {r : Int32} (hf : f_X12_place M = some r) : ExM g d iX12_place [.ref 67] LAY M (some (.int r), LAY, M) := by
  have hd1 : 1 ≤ d := by omega
  refine ExM.main pnX12 rfl (ls := [some (.ref 67)]) rfl ?_
  intro P hP
  rw [f_X12_place] at hf
  refine x_aload_n hP dX12_place_0 rfl ?_
  refine x_getI hP fX12_37 lay67 dX12_place_1 ?_
  cases hf
  exact x_iret hP rfl dX12_place_4
def f_X12_termOf_L5 (k : Mem → Option (Int32 × Mem)) : Nat → Int32 → Int32 → Int32 → Mem → Option (Int32 × Mem)
  | 0, _, _, _, _ => none
  | fu + 1, l2, l3, l4, M =>
    if l2 ≤ l4 then
      k M
    else
      (ag M 98 840 l4).bind fun v2 =>
      if (2 : Int32) ≤ v2 then
        lt (l3 + (-1) : Int32) fun v4 =>
        (ag M 102 400 (v4 - (1 : Int32))).bind fun v5 =>
        (ag M 102 400 v4).bind fun v6 =>
        lt (
          (
            if v2 = (2 : Int32) then
              some (v5 + v6)
            else
              if v2 = (3 : Int32) then
                some (v5 - v6)
              else
                if v2 = (4 : Int32) then
                  some (v5 * v6)
                else
                  (dv v5 v6).bind fun v12 =>
                  some v12
          ).bind fun t8 =>
          (pg M 102 400 (v4 - (1 : Int32)) t8).bind fun M13 =>
          lt (l4 + 1 : Int32) fun v14 =>
          f_X12_termOf_L5 k fu l2 v4 v14 M13
          ) fun j7 =>
        if v2 = (5 : Int32) then
          if v6 = 0 then
            lt (sI M 67 52 (1 : Int32)) fun M17 =>
            some ((0 : Int32), M17)
          else
            j7
        else
          j7
      else
        (
          if v2 = 0 then
            (ag M 99 840 l4).bind fun v20 =>
            some v20
          else
            (ag M 99 840 l4).bind fun v21 =>
            (ag M 101 9 v21).bind fun v22 =>
            some v22
        ).bind fun t18 =>
        (pg M 102 400 l3 t18).bind fun M23 =>
        lt (l3 + 1 : Int32) fun v24 =>
        lt (l4 + 1 : Int32) fun v25 =>
        f_X12_termOf_L5 k fu l2 v24 v25 M23
def f_X12_termOf (x1 : Int32) (x2 : Int32) (M : Mem) : Option (Int32 × Mem) :=
  f_X12_termOf_L5 (fun t26 =>
      (ag t26 102 400 (0 : Int32)).bind fun v27 =>
      some (v27, t26)
    ) FU x2 (0 : Int32) x1 M
set_option maxHeartbeats 1000000 in
set_option maxRecDepth 20000 in
theorem t_X12_termOf_L5 {g : GG} {d : Nat} {P : PT} {r : Int32} {M' : Mem} (hd : 1 ≤ d)  {l2 : Int32} (hP : IsM g iX12_termOf d (some (some (.int r), LAY, M')) P) {k : Mem → Option (Int32 × Mem)} (hk : ∀ t : Mem, k t = some (r, M') → P 165 [some (.ref 67), none, none, none, none, none, none, none] [] LAY t) : ∀ (fu : Nat) (l3 : Int32) (l4 : Int32) (M : Mem), f_X12_termOf_L5 k fu l2 l3 l4 M = some (r, M') → P 5 [some (.ref 67), none, some (.int l2), some (.int l3), some (.int l4), none, none, none] [] LAY M := by
  have hd1 : 1 ≤ d := by omega
  intro fu
  induction fu with
  | zero => intro l3 l4 M hf; simp [f_X12_termOf_L5] at hf
  | succ fu ih =>
    intro l3 l4 M hf
    rw [f_X12_termOf_L5] at hf
    refine x_iload hP dX12_termOf_5 rfl ?_
    refine x_iload_n hP dX12_termOf_7 rfl ?_
    refine x_icmp_ge hP dX12_termOf_8 (tgt := 165) (by decide) (fun c1 => ?_) (fun c1 => ?_)
    · replace hf := p_t c1 hf
      refine x_drop hP [some (.ref 67), none, none, none, none, none, none, none] (And.intro rfl trivial) ?_
      exact hk _ hf
    · replace hf := p_f c1 hf
      refine x_aload_n hP dX12_termOf_11 rfl ?_
      refine x_getA hP fX12_110 lay67 (r := 98) rfl dX12_termOf_12 ?_
      refine x_iload hP dX12_termOf_15 rfl ?_
      obtain ⟨v2, hiv2, hv2, hf⟩ := b_ag hf
      refine y_ald hP lay98 hiv2 hv2 dX12_termOf_17 ?_
      refine x_istore hP (ls2 := [some (.ref 67), none, some (.int l2), some (.int l3), some (.int l4), some (.int v2), none, none]) dX12_termOf_18 rfl rfl ?_
      refine x_iload hP dX12_termOf_20 rfl ?_
      refine x_iconst hP dX12_termOf_22 (v := 2) rfl ?_
      refine x_icmp_ge hP dX12_termOf_23 (tgt := 65) (by decide) (fun c3 => ?_) (fun c3 => ?_)
      · replace hf := p_t c3 hf
        obtain ⟨v4, hv4, hf⟩ := b_lt hf
        refine x_iinc hP (v := v4) (ls2 := [some (.ref 67), none, some (.int l2), some (.int v4), some (.int l4), some (.int v2), none, none]) dX12_termOf_65 rfl (by rw [hv4]; rfl) rfl rfl ?_
        refine x_aload_n hP dX12_termOf_68 rfl ?_
        refine x_getA hP fX12_122 lay67 (r := 102) rfl dX12_termOf_69 ?_
        refine x_iload_n hP dX12_termOf_72 rfl ?_
        refine x_iconst hP dX12_termOf_73 (v := 1) rfl ?_
        refine x_isub hP dX12_termOf_74 ?_
        obtain ⟨v5, hiv5, hv5, hf⟩ := b_ag hf
        refine y_ald hP lay102 hiv5 hv5 dX12_termOf_75 ?_
        refine x_istore hP (ls2 := [some (.ref 67), none, some (.int l2), some (.int v4), some (.int l4), some (.int v2), some (.int v5), none]) dX12_termOf_76 rfl rfl ?_
        refine x_aload_n hP dX12_termOf_78 rfl ?_
        refine x_getA hP fX12_122 lay67 (r := 102) rfl dX12_termOf_79 ?_
        refine x_iload_n hP dX12_termOf_82 rfl ?_
        obtain ⟨v6, hiv6, hv6, hf⟩ := b_ag hf
        refine y_ald hP lay102 hiv6 hv6 dX12_termOf_83 ?_
        refine x_istore hP (ls2 := [some (.ref 67), none, some (.int l2), some (.int v4), some (.int l4), some (.int v2), some (.int v5), some (.int v6)]) dX12_termOf_84 rfl rfl ?_
        refine x_iload hP dX12_termOf_86 rfl ?_
        refine x_iconst hP dX12_termOf_88 (v := 5) rfl ?_
        obtain ⟨j7, hj7, hf⟩ := b_lt hf
        have hJj7 : j7 = some (r, M') → P 104 [some (.ref 67), none, some (.int l2), some (.int v4), some (.int l4), some (.int v2), some (.int v5), some (.int v6)] [] LAY M := by
          intro hf
          rw [hj7] at hf
          try dsimp only at hf
          refine x_aload_n hP dX12_termOf_104 rfl ?_
          refine x_getA hP fX12_122 lay67 (r := 102) rfl dX12_termOf_105 ?_
          refine x_iload_n hP dX12_termOf_108 rfl ?_
          refine x_iconst hP dX12_termOf_109 (v := 1) rfl ?_
          refine x_isub hP dX12_termOf_110 ?_
          refine x_iload hP dX12_termOf_111 rfl ?_
          refine x_iconst hP dX12_termOf_113 (v := 2) rfl ?_
          obtain ⟨t8, het8, hf⟩ := b_bd hf
          have hj8 : P 158 [some (.ref 67), none, some (.int l2), some (.int v4), some (.int l4), none, none, none] [.int t8, .int (v4 - (1 : Int32)), .ref 102] LAY M := by
            obtain ⟨M13, hiM13, hM13, hf⟩ := b_pg hf
            refine y_ast hP lay102 hiM13 hM13 dX12_termOf_158 ?_
            obtain ⟨v14, hv14, hf⟩ := b_lt hf
            refine x_iinc hP (v := v14) (ls2 := [some (.ref 67), none, some (.int l2), some (.int v4), some (.int v14), none, none, none]) dX12_termOf_159 rfl (by rw [hv14]; rfl) rfl rfl ?_
            refine x_goto hP dX12_termOf_162 (tgt := 5) (by decide) ?_
            refine x_drop hP [some (.ref 67), none, some (.int l2), some (.int v4), some (.int v14), none, none, none] (And.intro rfl (And.intro rfl (And.intro rfl (And.intro rfl trivial)))) ?_
            exact ih _ _ _ hf
          clear hf
          have hf := het8
          clear het8
          refine x_icmp_ne hP dX12_termOf_114 (tgt := 125) (by decide) (fun c9 => ?_) (fun c9 => ?_)
          · replace hf := p_f c9 hf
            refine x_iload hP dX12_termOf_125 rfl ?_
            refine x_iconst hP dX12_termOf_127 (v := 3) rfl ?_
            refine x_icmp_ne hP dX12_termOf_128 (tgt := 139) (by decide) (fun c10 => ?_) (fun c10 => ?_)
            · replace hf := p_f c10 hf
              refine x_iload hP dX12_termOf_139 rfl ?_
              refine x_iconst hP dX12_termOf_141 (v := 4) rfl ?_
              refine x_icmp_ne hP dX12_termOf_142 (tgt := 153) (by decide) (fun c11 => ?_) (fun c11 => ?_)
              · replace hf := p_f c11 hf
                refine x_iload hP dX12_termOf_153 rfl ?_
                refine x_iload hP dX12_termOf_155 rfl ?_
                obtain ⟨v12, hzv12, hv12, hf⟩ := b_dv hf
                refine y_div hP hzv12 hv12 dX12_termOf_157 ?_
                refine x_drop hP [some (.ref 67), none, some (.int l2), some (.int v4), some (.int l4), none, none, none] (And.intro rfl (And.intro rfl (And.intro rfl (And.intro rfl trivial)))) ?_
                cases hf
                exact hj8
              · replace hf := p_t c11 hf
                refine x_iload hP dX12_termOf_145 rfl ?_
                refine x_iload hP dX12_termOf_147 rfl ?_
                refine x_imul hP dX12_termOf_149 ?_
                refine x_goto hP dX12_termOf_150 (tgt := 158) (by decide) ?_
                refine x_drop hP [some (.ref 67), none, some (.int l2), some (.int v4), some (.int l4), none, none, none] (And.intro rfl (And.intro rfl (And.intro rfl (And.intro rfl trivial)))) ?_
                cases hf
                exact hj8
            · replace hf := p_t c10 hf
              refine x_iload hP dX12_termOf_131 rfl ?_
              refine x_iload hP dX12_termOf_133 rfl ?_
              refine x_isub hP dX12_termOf_135 ?_
              refine x_goto hP dX12_termOf_136 (tgt := 158) (by decide) ?_
              refine x_drop hP [some (.ref 67), none, some (.int l2), some (.int v4), some (.int l4), none, none, none] (And.intro rfl (And.intro rfl (And.intro rfl (And.intro rfl trivial)))) ?_
              cases hf
              exact hj8
          · replace hf := p_t c9 hf
            refine x_iload hP dX12_termOf_117 rfl ?_
            refine x_iload hP dX12_termOf_119 rfl ?_
            refine x_iadd hP dX12_termOf_121 ?_
            refine x_goto hP dX12_termOf_122 (tgt := 158) (by decide) ?_
            refine x_drop hP [some (.ref 67), none, some (.int l2), some (.int v4), some (.int l4), none, none, none] (And.intro rfl (And.intro rfl (And.intro rfl (And.intro rfl trivial)))) ?_
            cases hf
            exact hj8
        clear hj7
        refine x_icmp_ne hP dX12_termOf_89 (tgt := 104) (by decide) (fun c15 => ?_) (fun c15 => ?_)
        · replace hf := p_f c15 hf
          refine x_drop hP [some (.ref 67), none, some (.int l2), some (.int v4), some (.int l4), some (.int v2), some (.int v5), some (.int v6)] (And.intro rfl (And.intro rfl (And.intro rfl (And.intro rfl (And.intro rfl (And.intro rfl (And.intro rfl trivial))))))) ?_
          exact hJj7  hf
        · replace hf := p_t c15 hf
          refine x_iload hP dX12_termOf_92 rfl ?_
          refine x_if_ne hP dX12_termOf_94 (tgt := 104) (by decide) (fun c16 => ?_) (fun c16 => ?_)
          · replace hf := p_f c16 hf
            refine x_drop hP [some (.ref 67), none, some (.int l2), some (.int v4), some (.int l4), some (.int v2), some (.int v5), some (.int v6)] (And.intro rfl (And.intro rfl (And.intro rfl (And.intro rfl (And.intro rfl (And.intro rfl (And.intro rfl trivial))))))) ?_
            exact hJj7  hf
          · replace hf := p_t c16 hf
            refine x_aload_n hP dX12_termOf_97 rfl ?_
            refine x_iconst hP dX12_termOf_98 (v := 1) rfl ?_
            obtain ⟨M17, hM17, hf⟩ := b_lt hf
            refine y_putZ hP fX12_330 (Or.inr rfl) lay67 hM17 dX12_termOf_99 ?_
            refine x_iconst hP dX12_termOf_102 (v := 0) rfl ?_
            cases hf
            exact x_iret hP rfl dX12_termOf_103
      · replace hf := p_f c3 hf
        refine x_aload_n hP dX12_termOf_26 rfl ?_
        refine x_getA hP fX12_122 lay67 (r := 102) rfl dX12_termOf_27 ?_
        refine x_iload_n hP dX12_termOf_30 rfl ?_
        refine x_iload hP dX12_termOf_31 rfl ?_
        obtain ⟨t18, het18, hf⟩ := b_bd hf
        have hj18 : P 58 [some (.ref 67), none, some (.int l2), some (.int l3), some (.int l4), none, none, none] [.int t18, .int l3, .ref 102] LAY M := by
          obtain ⟨M23, hiM23, hM23, hf⟩ := b_pg hf
          refine y_ast hP lay102 hiM23 hM23 dX12_termOf_58 ?_
          obtain ⟨v24, hv24, hf⟩ := b_lt hf
          refine x_iinc hP (v := v24) (ls2 := [some (.ref 67), none, some (.int l2), some (.int v24), some (.int l4), none, none, none]) dX12_termOf_59 rfl (by rw [hv24]; rfl) rfl rfl ?_
          refine x_goto hP dX12_termOf_62 (tgt := 159) (by decide) ?_
          obtain ⟨v25, hv25, hf⟩ := b_lt hf
          refine x_iinc hP (v := v25) (ls2 := [some (.ref 67), none, some (.int l2), some (.int v24), some (.int v25), none, none, none]) dX12_termOf_159 rfl (by rw [hv25]; rfl) rfl rfl ?_
          refine x_goto hP dX12_termOf_162 (tgt := 5) (by decide) ?_
          refine x_drop hP [some (.ref 67), none, some (.int l2), some (.int v24), some (.int v25), none, none, none] (And.intro rfl (And.intro rfl (And.intro rfl (And.intro rfl trivial)))) ?_
          exact ih _ _ _ hf
        clear hf
        have hf := het18
        clear het18
        refine x_if_ne hP dX12_termOf_33 (tgt := 46) (by decide) (fun c19 => ?_) (fun c19 => ?_)
        · replace hf := p_f c19 hf
          refine x_aload_n hP dX12_termOf_46 rfl ?_
          refine x_getA hP fX12_119 lay67 (r := 101) rfl dX12_termOf_47 ?_
          refine x_aload_n hP dX12_termOf_50 rfl ?_
          refine x_getA hP fX12_113 lay67 (r := 99) rfl dX12_termOf_51 ?_
          refine x_iload hP dX12_termOf_54 rfl ?_
          obtain ⟨v21, hiv21, hv21, hf⟩ := b_ag hf
          refine y_ald hP lay99 hiv21 hv21 dX12_termOf_56 ?_
          obtain ⟨v22, hiv22, hv22, hf⟩ := b_ag hf
          refine y_ald hP lay101 hiv22 hv22 dX12_termOf_57 ?_
          refine x_drop hP [some (.ref 67), none, some (.int l2), some (.int l3), some (.int l4), none, none, none] (And.intro rfl (And.intro rfl (And.intro rfl (And.intro rfl trivial)))) ?_
          cases hf
          exact hj18
        · replace hf := p_t c19 hf
          refine x_aload_n hP dX12_termOf_36 rfl ?_
          refine x_getA hP fX12_113 lay67 (r := 99) rfl dX12_termOf_37 ?_
          refine x_iload hP dX12_termOf_40 rfl ?_
          obtain ⟨v20, hiv20, hv20, hf⟩ := b_ag hf
          refine y_ald hP lay99 hiv20 hv20 dX12_termOf_42 ?_
          refine x_goto hP dX12_termOf_43 (tgt := 58) (by decide) ?_
          refine x_drop hP [some (.ref 67), none, some (.int l2), some (.int l3), some (.int l4), none, none, none] (And.intro rfl (And.intro rfl (And.intro rfl (And.intro rfl trivial)))) ?_
          cases hf
          exact hj18
set_option maxHeartbeats 1000000 in
set_option maxRecDepth 20000 in
theorem t_X12_termOf {g : GG} {d : Nat} (hd : 1 ≤ d) {x1 : Int32} {x2 : Int32} {M : Mem} {r : Int32} {M' : Mem} (hf : f_X12_termOf x1 x2 M = some (r, M')) : ExM g d iX12_termOf [.ref 67, .int x1, .int x2] LAY M (some (.int r), LAY, M') := by
  have hd1 : 1 ≤ d := by omega
  refine ExM.main pnX12 rfl (ls := [some (.ref 67), some (.int x1), some (.int x2), none, none, none, none, none]) rfl ?_
  intro P hP
  rw [f_X12_termOf] at hf
  refine x_iconst hP dX12_termOf_0 (v := 0) rfl ?_
  refine x_istore_n hP (ls2 := [some (.ref 67), some (.int x1), some (.int x2), some (.int (0 : Int32)), none, none, none, none]) dX12_termOf_1 rfl rfl rfl ?_
  refine x_iload_n hP dX12_termOf_2 rfl ?_
  refine x_istore hP (ls2 := [some (.ref 67), some (.int x1), some (.int x2), some (.int (0 : Int32)), some (.int x1), none, none, none]) dX12_termOf_3 rfl rfl ?_
  refine x_drop hP [some (.ref 67), none, some (.int x2), some (.int (0 : Int32)), some (.int x1), none, none, none] (And.intro rfl (And.intro rfl (And.intro rfl (And.intro rfl trivial)))) ?_
  refine t_X12_termOf_L5 hd hP (fun t26 hf => ?_) _ _ _ _ hf
  refine x_aload_n hP dX12_termOf_165 rfl ?_
  refine x_getA hP fX12_122 lay67 (r := 102) rfl dX12_termOf_166 ?_
  refine x_iconst hP dX12_termOf_169 (v := 0) rfl ?_
  obtain ⟨v27, hiv27, hv27, hf⟩ := b_ag hf
  refine y_ald hP lay102 hiv27 hv27 dX12_termOf_170 ?_
  cases hf
  exact x_iret hP rfl dX12_termOf_171
def f_X12_in (x0 : Int32) (x1 : Int32) (x2 : Int32) : Option (Int32) :=
  if x0 < x1 then
    some (0 : Int32)
  else
    if x2 < x0 then
      some (0 : Int32)
    else
      some (1 : Int32)
set_option maxHeartbeats 1000000 in
set_option maxRecDepth 20000 in
theorem t_X12_in {g : GG} {L : List Lay} {d : Nat} (hd : 1 ≤ d) {x0 : Int32} {x1 : Int32} {x2 : Int32} {M : Mem} {r : Int32} (hf : f_X12_in x0 x1 x2 = some r) : ExM g d iX12_in [.int x0, .int x1, .int x2] L M (some (.int r), L, M) := by
  have hd1 : 1 ≤ d := by omega
  refine ExM.main pnX12 rfl (ls := [some (.int x0), some (.int x1), some (.int x2)]) rfl ?_
  intro P hP
  rw [f_X12_in] at hf
  refine x_iload_n hP dX12_in_0 rfl ?_
  refine x_iload_n hP dX12_in_1 rfl ?_
  refine x_icmp_lt hP dX12_in_2 (tgt := 14) (by decide) (fun c1 => ?_) (fun c1 => ?_)
  · replace hf := p_t c1 hf
    refine x_iconst hP dX12_in_14 (v := 0) rfl ?_
    cases hf
    exact x_zret hP rfl (Or.inl rfl) dX12_in_15
  · replace hf := p_f c1 hf
    refine x_iload_n hP dX12_in_5 rfl ?_
    refine x_iload_n hP dX12_in_6 rfl ?_
    refine x_icmp_gt hP dX12_in_7 (tgt := 14) (by decide) (fun c2 => ?_) (fun c2 => ?_)
    · replace hf := p_t c2 hf
      refine x_iconst hP dX12_in_14 (v := 0) rfl ?_
      cases hf
      exact x_zret hP rfl (Or.inl rfl) dX12_in_15
    · replace hf := p_f c2 hf
      refine x_iconst hP dX12_in_10 (v := 1) rfl ?_
      refine x_goto hP dX12_in_11 (tgt := 15) (by decide) ?_
      cases hf
      exact x_zret hP rfl (Or.inr rfl) dX12_in_15
def f_X12_within (x0 : Int32) (x1 : Int32) (x2 : Int32) : Option (Int32) :=
  if x1 ≤ x0 then
    if x0 ≤ x2 then
      some x0
    else
      some x2
  else
    some x1
set_option maxHeartbeats 1000000 in
set_option maxRecDepth 20000 in
theorem t_X12_within {g : GG} {L : List Lay} {d : Nat} (hd : 1 ≤ d) {x0 : Int32} {x1 : Int32} {x2 : Int32} {M : Mem} {r : Int32} (hf : f_X12_within x0 x1 x2 = some r) : ExM g d iX12_within [.int x0, .int x1, .int x2] L M (some (.int r), L, M) := by
  have hd1 : 1 ≤ d := by omega
  refine ExM.main pnX12 rfl (ls := [some (.int x0), some (.int x1), some (.int x2)]) rfl ?_
  intro P hP
  rw [f_X12_within] at hf
  refine x_iload_n hP dX12_within_0 rfl ?_
  refine x_iload_n hP dX12_within_1 rfl ?_
  refine x_icmp_ge hP dX12_within_2 (tgt := 9) (by decide) (fun c1 => ?_) (fun c1 => ?_)
  · replace hf := p_t c1 hf
    refine x_iload_n hP dX12_within_9 rfl ?_
    refine x_iload_n hP dX12_within_10 rfl ?_
    refine x_icmp_le hP dX12_within_11 (tgt := 18) (by decide) (fun c2 => ?_) (fun c2 => ?_)
    · replace hf := p_t c2 hf
      refine x_iload_n hP dX12_within_18 rfl ?_
      cases hf
      exact x_iret hP rfl dX12_within_19
    · replace hf := p_f c2 hf
      refine x_iload_n hP dX12_within_14 rfl ?_
      refine x_goto hP dX12_within_15 (tgt := 19) (by decide) ?_
      cases hf
      exact x_iret hP rfl dX12_within_19
  · replace hf := p_f c1 hf
    refine x_iload_n hP dX12_within_5 rfl ?_
    refine x_goto hP dX12_within_6 (tgt := 19) (by decide) ?_
    cases hf
    exact x_iret hP rfl dX12_within_19

-- by program: wip/whole/gen/build_parts.py
def f_X8_isBlank (x0 : Int32) : Option (Int32) :=
  if x0 = (9 : Int32) then
    some (1 : Int32)
  else
    if x0 = (10 : Int32) then
      some (1 : Int32)
    else
      if x0 = (13 : Int32) then
        some (1 : Int32)
      else
        if x0 = (32 : Int32) then
          some (1 : Int32)
        else
          some (0 : Int32)
set_option maxHeartbeats 1000000 in
set_option maxRecDepth 20000 in
theorem t_X8_isBlank {g : GG} {L : List Lay} {d : Nat} (hd : 1 ≤ d) {x0 : Int32} {M : Mem} {r : Int32} (hf : f_X8_isBlank x0 = some r) : ExM g d iX8_isBlank [.int x0] L M (some (.int r), L, M) := by
  have hd1 : 1 ≤ d := by omega
  refine ExM.main pnX8 rfl (ls := [some (.int x0)]) rfl ?_
  intro P hP
  rw [f_X8_isBlank] at hf
  refine x_iload_n hP dX8_isBlank_0 rfl ?_
  refine x_bipush hP dX8_isBlank_1 (v := 9) rfl ?_
  refine x_icmp_eq hP dX8_isBlank_3 (tgt := 24) (by decide) (fun c1 => ?_) (fun c1 => ?_)
  · replace hf := p_t c1 hf
    refine x_iconst hP dX8_isBlank_24 (v := 1) rfl ?_
    refine x_goto hP dX8_isBlank_25 (tgt := 29) (by decide) ?_
    cases hf
    exact x_zret hP rfl (Or.inr rfl) dX8_isBlank_29
  · replace hf := p_f c1 hf
    refine x_iload_n hP dX8_isBlank_6 rfl ?_
    refine x_bipush hP dX8_isBlank_7 (v := 10) rfl ?_
    refine x_icmp_eq hP dX8_isBlank_9 (tgt := 24) (by decide) (fun c2 => ?_) (fun c2 => ?_)
    · replace hf := p_t c2 hf
      refine x_iconst hP dX8_isBlank_24 (v := 1) rfl ?_
      refine x_goto hP dX8_isBlank_25 (tgt := 29) (by decide) ?_
      cases hf
      exact x_zret hP rfl (Or.inr rfl) dX8_isBlank_29
    · replace hf := p_f c2 hf
      refine x_iload_n hP dX8_isBlank_12 rfl ?_
      refine x_bipush hP dX8_isBlank_13 (v := 13) rfl ?_
      refine x_icmp_eq hP dX8_isBlank_15 (tgt := 24) (by decide) (fun c3 => ?_) (fun c3 => ?_)
      · replace hf := p_t c3 hf
        refine x_iconst hP dX8_isBlank_24 (v := 1) rfl ?_
        refine x_goto hP dX8_isBlank_25 (tgt := 29) (by decide) ?_
        cases hf
        exact x_zret hP rfl (Or.inr rfl) dX8_isBlank_29
      · replace hf := p_f c3 hf
        refine x_iload_n hP dX8_isBlank_18 rfl ?_
        refine x_bipush hP dX8_isBlank_19 (v := 32) rfl ?_
        refine x_icmp_ne hP dX8_isBlank_21 (tgt := 28) (by decide) (fun c4 => ?_) (fun c4 => ?_)
        · replace hf := p_f c4 hf
          refine x_iconst hP dX8_isBlank_28 (v := 0) rfl ?_
          cases hf
          exact x_zret hP rfl (Or.inl rfl) dX8_isBlank_29
        · replace hf := p_t c4 hf
          refine x_iconst hP dX8_isBlank_24 (v := 1) rfl ?_
          refine x_goto hP dX8_isBlank_25 (tgt := 29) (by decide) ?_
          cases hf
          exact x_zret hP rfl (Or.inr rfl) dX8_isBlank_29
def f_X8_behindBlanks_L2 : Nat → Int32 → Mem → Option (Int32)
  | 0, _, _ => none
  | fu + 1, l2, M =>
    if M.1 21 1 ≤ l2 then
      some l2
    else
      (f_X7_byteAt l2 M).bind fun v3 =>
      (f_X8_isBlank v3).bind fun v5 =>
      if v5 = 0 then
        some l2
      else
        lt (l2 + 1 : Int32) fun v7 =>
        f_X8_behindBlanks_L2 fu v7 M
def f_X8_behindBlanks (x1 : Int32) (M : Mem) : Option (Int32) :=
  (f_X8_behindBlanks_L2 FU x1 M).bind fun t8 =>
  some t8
set_option maxHeartbeats 1000000 in
set_option maxRecDepth 20000 in
theorem t_X8_behindBlanks_L2 {g : GG} {d : Nat} {P : PT} {res : Option RS} (hd : 2 ≤ d)  (hP : IsM g iX8_behindBlanks d res P) : ∀ (fu : Nat) (l2 : Int32) (M : Mem) (t : Int32), f_X8_behindBlanks_L2 fu l2 M = some t → P 27 [none, none, some (.int t)] [] LAY M → P 2 [some (.ref 21), none, some (.int l2)] [] LAY M := by
  have hd1 : 1 ≤ d := by omega
  intro fu
  induction fu with
  | zero => intro l2 M t hf; simp [f_X8_behindBlanks_L2] at hf
  | succ fu ih =>
    intro l2 M t hf hx
    rw [f_X8_behindBlanks_L2] at hf
    refine x_iload_n hP dX8_behindBlanks_2 rfl ?_
    refine x_aload_n hP dX8_behindBlanks_3 rfl ?_
    refine x_getI hP fX8_73 lay21 dX8_behindBlanks_4 ?_
    refine x_icmp_ge hP dX8_behindBlanks_7 (tgt := 27) (by decide) (fun c1 => ?_) (fun c1 => ?_)
    · replace hf := p_t c1 hf
      refine x_drop hP [none, none, some (.int l2)] (And.intro rfl trivial) ?_
      cases hf
      exact hx
    · replace hf := p_f c1 hf
      refine x_aload_n hP dX8_behindBlanks_10 rfl ?_
      refine x_iload_n hP dX8_behindBlanks_11 rfl ?_
      obtain ⟨v3, hc2, hf⟩ := b_bd hf
      refine y_cvi hP oX7_byteAt lX8_49 [.int l2] [] rfl rfl rfl lay21 dX8_behindBlanks_12 (t_X7_byteAt (d := d - 1) (by omega) hc2) (by omega) ?_
      obtain ⟨v5, hc4, hf⟩ := b_bd hf
      refine y_csi hP oX8_isBlank lX8_84 [.int v3] [] rfl rfl rfl dX8_behindBlanks_15 (t_X8_isBlank (d := d - 1) (by omega) hc4) (by omega) ?_
      refine x_if_eq hP dX8_behindBlanks_18 (tgt := 27) (by decide) (fun c6 => ?_) (fun c6 => ?_)
      · replace hf := p_t c6 hf
        refine x_drop hP [none, none, some (.int l2)] (And.intro rfl trivial) ?_
        cases hf
        exact hx
      · replace hf := p_f c6 hf
        obtain ⟨v7, hv7, hf⟩ := b_lt hf
        refine x_iinc hP (v := v7) (ls2 := [some (.ref 21), none, some (.int v7)]) dX8_behindBlanks_21 rfl (by rw [hv7]; rfl) rfl rfl ?_
        refine x_goto hP dX8_behindBlanks_24 (tgt := 2) (by decide) ?_
        refine x_drop hP [some (.ref 21), none, some (.int v7)] (And.intro rfl (And.intro rfl trivial)) ?_
        exact ih _ _ _ hf hx
set_option maxHeartbeats 1000000 in
set_option maxRecDepth 20000 in
theorem t_X8_behindBlanks {g : GG} {d : Nat} (hd : 2 ≤ d) {x1 : Int32} {M : Mem} {r : Int32} (hf : f_X8_behindBlanks x1 M = some r) : ExM g d iX8_behindBlanks [.ref 21, .int x1] LAY M (some (.int r), LAY, M) := by
  have hd1 : 1 ≤ d := by omega
  refine ExM.main pnX8 rfl (ls := [some (.ref 21), some (.int x1), none]) rfl ?_
  intro P hP
  rw [f_X8_behindBlanks] at hf
  refine x_iload_n hP dX8_behindBlanks_0 rfl ?_
  refine x_istore_n hP (ls2 := [some (.ref 21), some (.int x1), some (.int x1)]) dX8_behindBlanks_1 rfl rfl rfl ?_
  refine x_drop hP [some (.ref 21), none, some (.int x1)] (And.intro rfl (And.intro rfl trivial)) ?_
  obtain ⟨t8, hl9, hf⟩ := b_bd hf
  refine t_X8_behindBlanks_L2 hd hP _ _ _ _ hl9 ?_
  refine x_iload_n hP dX8_behindBlanks_27 rfl ?_
  cases hf
  exact x_iret hP rfl dX8_behindBlanks_28
def f_X8_isLetter (x0 : Int32) : Option (Int32) :=
  if x0 < (97 : Int32) then
    some (0 : Int32)
  else
    if (122 : Int32) < x0 then
      some (0 : Int32)
    else
      some (1 : Int32)
set_option maxHeartbeats 1000000 in
set_option maxRecDepth 20000 in
theorem t_X8_isLetter {g : GG} {L : List Lay} {d : Nat} (hd : 1 ≤ d) {x0 : Int32} {M : Mem} {r : Int32} (hf : f_X8_isLetter x0 = some r) : ExM g d iX8_isLetter [.int x0] L M (some (.int r), L, M) := by
  have hd1 : 1 ≤ d := by omega
  refine ExM.main pnX8 rfl (ls := [some (.int x0)]) rfl ?_
  intro P hP
  rw [f_X8_isLetter] at hf
  refine x_iload_n hP dX8_isLetter_0 rfl ?_
  refine x_bipush hP dX8_isLetter_1 (v := 97) rfl ?_
  refine x_icmp_lt hP dX8_isLetter_3 (tgt := 16) (by decide) (fun c1 => ?_) (fun c1 => ?_)
  · replace hf := p_t c1 hf
    refine x_iconst hP dX8_isLetter_16 (v := 0) rfl ?_
    cases hf
    exact x_zret hP rfl (Or.inl rfl) dX8_isLetter_17
  · replace hf := p_f c1 hf
    refine x_iload_n hP dX8_isLetter_6 rfl ?_
    refine x_bipush hP dX8_isLetter_7 (v := 122) rfl ?_
    refine x_icmp_gt hP dX8_isLetter_9 (tgt := 16) (by decide) (fun c2 => ?_) (fun c2 => ?_)
    · replace hf := p_t c2 hf
      refine x_iconst hP dX8_isLetter_16 (v := 0) rfl ?_
      cases hf
      exact x_zret hP rfl (Or.inl rfl) dX8_isLetter_17
    · replace hf := p_f c2 hf
      refine x_iconst hP dX8_isLetter_12 (v := 1) rfl ?_
      refine x_goto hP dX8_isLetter_13 (tgt := 17) (by decide) ?_
      cases hf
      exact x_zret hP rfl (Or.inr rfl) dX8_isLetter_17
def f_X8_spell (x0 : Int64) (x2 : Int32) : Option (Int64) :=
  some ((((x0 * (27 : Int64)) + x2.toInt64) - (97 : Int64)) + (1 : Int64))
set_option maxHeartbeats 1000000 in
set_option maxRecDepth 20000 in
theorem t_X8_spell {g : GG} {L : List Lay} {d : Nat} (hd : 1 ≤ d) {x0 : Int64} {x2 : Int32} {M : Mem} {r : Int64} (hf : f_X8_spell x0 x2 = some r) : ExM g d iX8_spell [.long x0, .int x2] L M (some (.long r), L, M) := by
  have hd1 : 1 ≤ d := by omega
  refine ExM.main pnX8 rfl (ls := [some (.long x0), none, some (.int x2)]) rfl ?_
  intro P hP
  rw [f_X8_spell] at hf
  refine x_lload_n hP dX8_spell_0 rfl ?_
  refine x_ldc2 hP dX8_spell_1 qX8_87 ?_
  refine x_lmul hP dX8_spell_4 ?_
  refine x_iload_n hP dX8_spell_5 rfl ?_
  refine x_i2l hP dX8_spell_6 ?_
  refine x_ladd hP dX8_spell_7 ?_
  refine x_ldc2 hP dX8_spell_8 qX8_89 ?_
  refine x_lsub hP dX8_spell_11 ?_
  refine x_lconst hP dX8_spell_12 (v := 1) rfl ?_
  refine x_ladd hP dX8_spell_13 ?_
  cases hf
  exact x_lret hP rfl dX8_spell_14
def f_X8_kindOf_L2 (k : Unit → Option (Int32)) : Nat → Int64 → Int32 → Mem → Option (Int32)
  | 0, _, _, _ => none
  | fu + 1, l1, l3, M =>
    if (23 : Int32) ≤ l3 then
      k ()
    else
      (aj M 28 23 l3).bind fun v2 =>
      if lg_cmp v2 l1 = 0 then
        some ((128 : Int32) + l3)
      else
        lt (l3 + 1 : Int32) fun v4 =>
        f_X8_kindOf_L2 k fu l1 v4 M
def f_X8_kindOf (x1 : Int64) (M : Mem) : Option (Int32) :=
  f_X8_kindOf_L2 (fun t5 =>
      some (2 : Int32)
    ) FU x1 (0 : Int32) M
set_option maxHeartbeats 1000000 in
set_option maxRecDepth 20000 in
theorem t_X8_kindOf_L2 {g : GG} {d : Nat} {P : PT} {M : Mem} {r : Int32} (hd : 1 ≤ d)  {l1 : Int64} (hP : IsM g iX8_kindOf d (some (some (.int r), LAY, M)) P) {k : Unit → Option (Int32)} (hk : ∀ t : Unit, k t = some r → P 31 [none, none, none, none] [] LAY M) : ∀ (fu : Nat) (l3 : Int32), f_X8_kindOf_L2 k fu l1 l3 M = some r → P 2 [some (.ref 24), some (.long l1), none, some (.int l3)] [] LAY M := by
  have hd1 : 1 ≤ d := by omega
  intro fu
  induction fu with
  | zero => intro l3 hf; simp [f_X8_kindOf_L2] at hf
  | succ fu ih =>
    intro l3 hf
    rw [f_X8_kindOf_L2] at hf
    refine x_iload_n hP dX8_kindOf_2 rfl ?_
    refine x_bipush hP dX8_kindOf_3 (v := 23) rfl ?_
    refine x_icmp_ge hP dX8_kindOf_5 (tgt := 31) (by decide) (fun c1 => ?_) (fun c1 => ?_)
    · replace hf := p_t c1 hf
      refine x_drop hP [none, none, none, none] trivial ?_
      exact hk _ hf
    · replace hf := p_f c1 hf
      refine x_aload_n hP dX8_kindOf_8 rfl ?_
      refine x_getA hP fX8_22 lay24 (r := 28) rfl dX8_kindOf_9 ?_
      refine x_iload_n hP dX8_kindOf_12 rfl ?_
      obtain ⟨v2, hiv2, hv2, hf⟩ := b_aj hf
      refine y_lld hP lay28 hiv2 hv2 dX8_kindOf_13 ?_
      refine x_lload_n hP dX8_kindOf_14 rfl ?_
      refine x_lcmp hP dX8_kindOf_15 ?_
      refine x_if_ne hP dX8_kindOf_16 (tgt := 25) (by decide) (fun c3 => ?_) (fun c3 => ?_)
      · replace hf := p_f c3 hf
        obtain ⟨v4, hv4, hf⟩ := b_lt hf
        refine x_iinc hP (v := v4) (ls2 := [some (.ref 24), some (.long l1), none, some (.int v4)]) dX8_kindOf_25 rfl (by rw [hv4]; rfl) rfl rfl ?_
        refine x_goto hP dX8_kindOf_28 (tgt := 2) (by decide) ?_
        refine x_drop hP [some (.ref 24), some (.long l1), none, some (.int v4)] (And.intro rfl (And.intro rfl (And.intro rfl trivial))) ?_
        exact ih _ hf
      · replace hf := p_t c3 hf
        refine x_sipush hP dX8_kindOf_19 (v := 128) rfl ?_
        refine x_iload_n hP dX8_kindOf_22 rfl ?_
        refine x_iadd hP dX8_kindOf_23 ?_
        cases hf
        exact x_iret hP rfl dX8_kindOf_24
set_option maxHeartbeats 1000000 in
set_option maxRecDepth 20000 in
theorem t_X8_kindOf {g : GG} {d : Nat} (hd : 1 ≤ d) {x1 : Int64} {M : Mem} {r : Int32} (hf : f_X8_kindOf x1 M = some r) : ExM g d iX8_kindOf [.ref 24, .long x1] LAY M (some (.int r), LAY, M) := by
  have hd1 : 1 ≤ d := by omega
  refine ExM.main pnX8 rfl (ls := [some (.ref 24), some (.long x1), none, none]) rfl ?_
  intro P hP
  rw [f_X8_kindOf] at hf
  refine x_iconst hP dX8_kindOf_0 (v := 0) rfl ?_
  refine x_istore_n hP (ls2 := [some (.ref 24), some (.long x1), none, some (.int (0 : Int32))]) dX8_kindOf_1 rfl rfl rfl ?_
  refine x_drop hP [some (.ref 24), some (.long x1), none, some (.int (0 : Int32))] (And.intro rfl (And.intro rfl (And.intro rfl trivial))) ?_
  refine t_X8_kindOf_L2 hd hP (fun t5 hf => ?_) _ _ hf
  refine x_iconst hP dX8_kindOf_31 (v := 2) rfl ?_
  cases hf
  exact x_iret hP rfl dX8_kindOf_32
def f_X8_cutLetters_L6 : Nat → Int32 → Int32 → Int64 → Int32 → Mem → Option (Int64 × Int32)
  | 0, _, _, _, _, _ => none
  | fu + 1, l2, l3, l4, l6, M =>
    if M.1 21 1 ≤ l6 then
      some (l4, l6)
    else
      (f_X7_byteAt l6 M).bind fun v3 =>
      (f_X8_isLetter v3).bind fun v5 =>
      if v5 = 0 then
        some (l4, l6)
      else
        (f_X7_byteAt l6 M).bind fun v8 =>
        (f_X8_spell l4 v8).bind fun v10 =>
        lt (l6 + 1 : Int32) fun v11 =>
        f_X8_cutLetters_L6 fu l2 l3 v10 v11 M
def f_X8_cutLetters (x2 : Int32) (x3 : Int32) (M : Mem) : Option (Int32 × Mem) :=
  (f_X8_cutLetters_L6 FU x2 x3 (0 : Int64) x2 M).bind fun t12 =>
  (pj M 27 401 x3 t12.1).bind fun M14 =>
  (
    if t12.2 - x2 ≤ (8 : Int32) then
      (f_X8_kindOf t12.1 M14).bind fun v18 =>
      some v18
    else
      some (1 : Int32)
  ).bind fun t15 =>
  (pg M14 25 401 x3 t15).bind fun M19 =>
  some (t12.2, M19)
set_option maxHeartbeats 1000000 in
set_option maxRecDepth 20000 in
theorem t_X8_cutLetters_L6 {g : GG} {d : Nat} {P : PT} {res : Option RS} (hd : 2 ≤ d)  (hP : IsM g iX8_cutLetters d res P) : ∀ (fu : Nat) (l2 : Int32) (l3 : Int32) (l4 : Int64) (l6 : Int32) (M : Mem) (t : Int64 × Int32), f_X8_cutLetters_L6 fu l2 l3 l4 l6 M = some t → P 46 [some (.ref 24), none, some (.int l2), some (.int l3), some (.long t.1), none, some (.int t.2)] [] LAY M → P 6 [some (.ref 24), some (.ref 21), some (.int l2), some (.int l3), some (.long l4), none, some (.int l6)] [] LAY M := by
  have hd1 : 1 ≤ d := by omega
  intro fu
  induction fu with
  | zero => intro l2 l3 l4 l6 M t hf; simp [f_X8_cutLetters_L6] at hf
  | succ fu ih =>
    intro l2 l3 l4 l6 M t hf hx
    rw [f_X8_cutLetters_L6] at hf
    refine x_iload hP dX8_cutLetters_6 rfl ?_
    refine x_aload_n hP dX8_cutLetters_8 rfl ?_
    refine x_getI hP fX8_73 lay21 dX8_cutLetters_9 ?_
    refine x_icmp_ge hP dX8_cutLetters_12 (tgt := 46) (by decide) (fun c1 => ?_) (fun c1 => ?_)
    · replace hf := p_t c1 hf
      refine x_drop hP [some (.ref 24), none, some (.int l2), some (.int l3), some (.long l4), none, some (.int l6)] (And.intro rfl (And.intro rfl (And.intro rfl (And.intro rfl (And.intro rfl trivial))))) ?_
      cases hf
      exact hx
    · replace hf := p_f c1 hf
      refine x_aload_n hP dX8_cutLetters_15 rfl ?_
      refine x_iload hP dX8_cutLetters_16 rfl ?_
      obtain ⟨v3, hc2, hf⟩ := b_bd hf
      refine y_cvi hP oX7_byteAt lX8_49 [.int l6] [] rfl rfl rfl lay21 dX8_cutLetters_18 (t_X7_byteAt (d := d - 1) (by omega) hc2) (by omega) ?_
      obtain ⟨v5, hc4, hf⟩ := b_bd hf
      refine y_csi hP oX8_isLetter lX8_55 [.int v3] [] rfl rfl rfl dX8_cutLetters_21 (t_X8_isLetter (d := d - 1) (by omega) hc4) (by omega) ?_
      refine x_if_eq hP dX8_cutLetters_24 (tgt := 46) (by decide) (fun c6 => ?_) (fun c6 => ?_)
      · replace hf := p_t c6 hf
        refine x_drop hP [some (.ref 24), none, some (.int l2), some (.int l3), some (.long l4), none, some (.int l6)] (And.intro rfl (And.intro rfl (And.intro rfl (And.intro rfl (And.intro rfl trivial))))) ?_
        cases hf
        exact hx
      · replace hf := p_f c6 hf
        refine x_lload hP dX8_cutLetters_27 rfl ?_
        refine x_aload_n hP dX8_cutLetters_29 rfl ?_
        refine x_iload hP dX8_cutLetters_30 rfl ?_
        obtain ⟨v8, hc7, hf⟩ := b_bd hf
        refine y_cvi hP oX7_byteAt lX8_49 [.int l6] [.long l4] rfl rfl rfl lay21 dX8_cutLetters_32 (t_X7_byteAt (d := d - 1) (by omega) hc7) (by omega) ?_
        obtain ⟨v10, hc9, hf⟩ := b_bd hf
        refine y_csl hP oX8_spell lX8_37 [.long l4, .int v8] [] rfl rfl rfl dX8_cutLetters_35 (t_X8_spell (d := d - 1) (by omega) hc9) (by omega) ?_
        refine x_lstore hP (ls2 := [some (.ref 24), some (.ref 21), some (.int l2), some (.int l3), some (.long v10), none, some (.int l6)]) dX8_cutLetters_38 rfl rfl ?_
        obtain ⟨v11, hv11, hf⟩ := b_lt hf
        refine x_iinc hP (v := v11) (ls2 := [some (.ref 24), some (.ref 21), some (.int l2), some (.int l3), some (.long v10), none, some (.int v11)]) dX8_cutLetters_40 rfl (by rw [hv11]; rfl) rfl rfl ?_
        refine x_goto hP dX8_cutLetters_43 (tgt := 6) (by decide) ?_
        refine x_drop hP [some (.ref 24), some (.ref 21), some (.int l2), some (.int l3), some (.long v10), none, some (.int v11)] (And.intro rfl (And.intro rfl (And.intro rfl (And.intro rfl (And.intro rfl (And.intro rfl trivial)))))) ?_
        exact ih _ _ _ _ _ _ hf hx
set_option maxHeartbeats 1000000 in
set_option maxRecDepth 20000 in
theorem t_X8_cutLetters {g : GG} {d : Nat} (hd : 2 ≤ d) {x2 : Int32} {x3 : Int32} {M : Mem} {r : Int32} {M' : Mem} (hf : f_X8_cutLetters x2 x3 M = some (r, M')) : ExM g d iX8_cutLetters [.ref 24, .ref 21, .int x2, .int x3] LAY M (some (.int r), LAY, M') := by
  have hd1 : 1 ≤ d := by omega
  refine ExM.main pnX8 rfl (ls := [some (.ref 24), some (.ref 21), some (.int x2), some (.int x3), none, none, none]) rfl ?_
  intro P hP
  rw [f_X8_cutLetters] at hf
  refine x_lconst hP dX8_cutLetters_0 (v := 0) rfl ?_
  refine x_lstore hP (ls2 := [some (.ref 24), some (.ref 21), some (.int x2), some (.int x3), some (.long (0 : Int64)), none, none]) dX8_cutLetters_1 rfl rfl ?_
  refine x_iload_n hP dX8_cutLetters_3 rfl ?_
  refine x_istore hP (ls2 := [some (.ref 24), some (.ref 21), some (.int x2), some (.int x3), some (.long (0 : Int64)), none, some (.int x2)]) dX8_cutLetters_4 rfl rfl ?_
  refine x_drop hP [some (.ref 24), some (.ref 21), some (.int x2), some (.int x3), some (.long (0 : Int64)), none, some (.int x2)] (And.intro rfl (And.intro rfl (And.intro rfl (And.intro rfl (And.intro rfl (And.intro rfl trivial)))))) ?_
  obtain ⟨t12, hl13, hf⟩ := b_bd hf
  refine t_X8_cutLetters_L6 hd hP _ _ _ _ _ _ _ hl13 ?_
  refine x_aload_n hP dX8_cutLetters_46 rfl ?_
  refine x_getA hP fX8_18 lay24 (r := 27) rfl dX8_cutLetters_47 ?_
  refine x_iload_n hP dX8_cutLetters_50 rfl ?_
  refine x_lload hP dX8_cutLetters_51 rfl ?_
  obtain ⟨M14, hiM14, hM14, hf⟩ := b_pj hf
  refine y_lst hP lay27 hiM14 hM14 dX8_cutLetters_53 ?_
  refine x_aload_n hP dX8_cutLetters_54 rfl ?_
  refine x_getA hP fX8_11 lay24 (r := 25) rfl dX8_cutLetters_55 ?_
  refine x_iload_n hP dX8_cutLetters_58 rfl ?_
  refine x_iload hP dX8_cutLetters_59 rfl ?_
  refine x_iload_n hP dX8_cutLetters_61 rfl ?_
  refine x_isub hP dX8_cutLetters_62 ?_
  refine x_bipush hP dX8_cutLetters_63 (v := 8) rfl ?_
  obtain ⟨t15, het15, hf⟩ := b_bd hf
  have hj15 : P 78 [none, none, none, none, none, none, some (.int t12.2)] [.int t15, .int x3, .ref 25] LAY M14 := by
    obtain ⟨M19, hiM19, hM19, hf⟩ := b_pg hf
    refine y_ast hP lay25 hiM19 hM19 dX8_cutLetters_78 ?_
    refine x_iload hP dX8_cutLetters_79 rfl ?_
    cases hf
    exact x_iret hP rfl dX8_cutLetters_81
  clear hf
  have hf := het15
  clear het15
  refine x_icmp_le hP dX8_cutLetters_65 (tgt := 72) (by decide) (fun c16 => ?_) (fun c16 => ?_)
  · replace hf := p_t c16 hf
    refine x_aload_n hP dX8_cutLetters_72 rfl ?_
    refine x_lload hP dX8_cutLetters_73 rfl ?_
    obtain ⟨v18, hc17, hf⟩ := b_bd hf
    refine y_cvi hP oX8_kindOf lX8_76 [.long t12.1] [.int x3, .ref 25] rfl rfl rfl lay24 dX8_cutLetters_75 (t_X8_kindOf (d := d - 1) (by omega) hc17) (by omega) ?_
    refine x_drop hP [none, none, none, none, none, none, some (.int t12.2)] (And.intro rfl trivial) ?_
    cases hf
    exact hj15
  · replace hf := p_f c16 hf
    refine x_iconst hP dX8_cutLetters_68 (v := 1) rfl ?_
    refine x_goto hP dX8_cutLetters_69 (tgt := 78) (by decide) ?_
    refine x_drop hP [none, none, none, none, none, none, some (.int t12.2)] (And.intro rfl trivial) ?_
    cases hf
    exact hj15
def f_X8_isDigit (x0 : Int32) : Option (Int32) :=
  if x0 < (48 : Int32) then
    some (0 : Int32)
  else
    if (57 : Int32) < x0 then
      some (0 : Int32)
    else
      some (1 : Int32)
set_option maxHeartbeats 1000000 in
set_option maxRecDepth 20000 in
theorem t_X8_isDigit {g : GG} {L : List Lay} {d : Nat} (hd : 1 ≤ d) {x0 : Int32} {M : Mem} {r : Int32} (hf : f_X8_isDigit x0 = some r) : ExM g d iX8_isDigit [.int x0] L M (some (.int r), L, M) := by
  have hd1 : 1 ≤ d := by omega
  refine ExM.main pnX8 rfl (ls := [some (.int x0)]) rfl ?_
  intro P hP
  rw [f_X8_isDigit] at hf
  refine x_iload_n hP dX8_isDigit_0 rfl ?_
  refine x_bipush hP dX8_isDigit_1 (v := 48) rfl ?_
  refine x_icmp_lt hP dX8_isDigit_3 (tgt := 16) (by decide) (fun c1 => ?_) (fun c1 => ?_)
  · replace hf := p_t c1 hf
    refine x_iconst hP dX8_isDigit_16 (v := 0) rfl ?_
    cases hf
    exact x_zret hP rfl (Or.inl rfl) dX8_isDigit_17
  · replace hf := p_f c1 hf
    refine x_iload_n hP dX8_isDigit_6 rfl ?_
    refine x_bipush hP dX8_isDigit_7 (v := 57) rfl ?_
    refine x_icmp_gt hP dX8_isDigit_9 (tgt := 16) (by decide) (fun c2 => ?_) (fun c2 => ?_)
    · replace hf := p_t c2 hf
      refine x_iconst hP dX8_isDigit_16 (v := 0) rfl ?_
      cases hf
      exact x_zret hP rfl (Or.inl rfl) dX8_isDigit_17
    · replace hf := p_f c2 hf
      refine x_iconst hP dX8_isDigit_12 (v := 1) rfl ?_
      refine x_goto hP dX8_isDigit_13 (tgt := 17) (by decide) ?_
      cases hf
      exact x_zret hP rfl (Or.inr rfl) dX8_isDigit_17
def f_X8_cutDigits_L6 : Nat → Int32 → Int32 → Int64 → Int32 → Mem → Option (Int64 × Int32)
  | 0, _, _, _, _, _ => none
  | fu + 1, l2, l3, l4, l6, M =>
    if M.1 21 1 ≤ l6 then
      some (l4, l6)
    else
      (f_X7_byteAt l6 M).bind fun v3 =>
      (f_X8_isDigit v3).bind fun v5 =>
      if v5 = 0 then
        some (l4, l6)
      else
        (f_X7_byteAt l6 M).bind fun v8 =>
        lt (((l4 * (10 : Int64)) + v8.toInt64) - (48 : Int64) : Int64) fun v9 =>
        lt (l6 + 1 : Int32) fun v10 =>
        f_X8_cutDigits_L6 fu l2 l3 v9 v10 M
def f_X8_cutDigits (x2 : Int32) (x3 : Int32) (M : Mem) : Option (Int32 × Mem) :=
  (f_X8_cutDigits_L6 FU x2 x3 (0 : Int64) x2 M).bind fun t11 =>
  (pj M 27 401 x3 t11.1).bind fun M13 =>
  lt (
    if t11.2 - x2 ≤ (4 : Int32) then
      (3 : Int32)
    else
      (1 : Int32)
   : Int32) fun t14 =>
  (pg M13 25 401 x3 t14).bind fun M16 =>
  some (t11.2, M16)
set_option maxHeartbeats 1000000 in
set_option maxRecDepth 20000 in
theorem t_X8_cutDigits_L6 {g : GG} {d : Nat} {P : PT} {res : Option RS} (hd : 2 ≤ d)  (hP : IsM g iX8_cutDigits d res P) : ∀ (fu : Nat) (l2 : Int32) (l3 : Int32) (l4 : Int64) (l6 : Int32) (M : Mem) (t : Int64 × Int32), f_X8_cutDigits_L6 fu l2 l3 l4 l6 M = some t → P 53 [some (.ref 24), none, some (.int l2), some (.int l3), some (.long t.1), none, some (.int t.2)] [] LAY M → P 6 [some (.ref 24), some (.ref 21), some (.int l2), some (.int l3), some (.long l4), none, some (.int l6)] [] LAY M := by
  have hd1 : 1 ≤ d := by omega
  intro fu
  induction fu with
  | zero => intro l2 l3 l4 l6 M t hf; simp [f_X8_cutDigits_L6] at hf
  | succ fu ih =>
    intro l2 l3 l4 l6 M t hf hx
    rw [f_X8_cutDigits_L6] at hf
    refine x_iload hP dX8_cutDigits_6 rfl ?_
    refine x_aload_n hP dX8_cutDigits_8 rfl ?_
    refine x_getI hP fX8_73 lay21 dX8_cutDigits_9 ?_
    refine x_icmp_ge hP dX8_cutDigits_12 (tgt := 53) (by decide) (fun c1 => ?_) (fun c1 => ?_)
    · replace hf := p_t c1 hf
      refine x_drop hP [some (.ref 24), none, some (.int l2), some (.int l3), some (.long l4), none, some (.int l6)] (And.intro rfl (And.intro rfl (And.intro rfl (And.intro rfl (And.intro rfl trivial))))) ?_
      cases hf
      exact hx
    · replace hf := p_f c1 hf
      refine x_aload_n hP dX8_cutDigits_15 rfl ?_
      refine x_iload hP dX8_cutDigits_16 rfl ?_
      obtain ⟨v3, hc2, hf⟩ := b_bd hf
      refine y_cvi hP oX7_byteAt lX8_49 [.int l6] [] rfl rfl rfl lay21 dX8_cutDigits_18 (t_X7_byteAt (d := d - 1) (by omega) hc2) (by omega) ?_
      obtain ⟨v5, hc4, hf⟩ := b_bd hf
      refine y_csi hP oX8_isDigit lX8_62 [.int v3] [] rfl rfl rfl dX8_cutDigits_21 (t_X8_isDigit (d := d - 1) (by omega) hc4) (by omega) ?_
      refine x_if_eq hP dX8_cutDigits_24 (tgt := 53) (by decide) (fun c6 => ?_) (fun c6 => ?_)
      · replace hf := p_t c6 hf
        refine x_drop hP [some (.ref 24), none, some (.int l2), some (.int l3), some (.long l4), none, some (.int l6)] (And.intro rfl (And.intro rfl (And.intro rfl (And.intro rfl (And.intro rfl trivial))))) ?_
        cases hf
        exact hx
      · replace hf := p_f c6 hf
        refine x_lload hP dX8_cutDigits_27 rfl ?_
        refine x_ldc2 hP dX8_cutDigits_29 qX8_80 ?_
        refine x_lmul hP dX8_cutDigits_32 ?_
        refine x_aload_n hP dX8_cutDigits_33 rfl ?_
        refine x_iload hP dX8_cutDigits_34 rfl ?_
        obtain ⟨v8, hc7, hf⟩ := b_bd hf
        refine y_cvi hP oX7_byteAt lX8_49 [.int l6] [.long (l4 * (10 : Int64))] rfl rfl rfl lay21 dX8_cutDigits_36 (t_X7_byteAt (d := d - 1) (by omega) hc7) (by omega) ?_
        refine x_i2l hP dX8_cutDigits_39 ?_
        refine x_ladd hP dX8_cutDigits_40 ?_
        refine x_ldc2 hP dX8_cutDigits_41 qX8_82 ?_
        refine x_lsub hP dX8_cutDigits_44 ?_
        obtain ⟨v9, hv9, hf⟩ := b_lt hf
        refine y_nmJ hv9 ?_
        refine x_lstore hP (ls2 := [some (.ref 24), some (.ref 21), some (.int l2), some (.int l3), some (.long v9), none, some (.int l6)]) dX8_cutDigits_45 rfl rfl ?_
        obtain ⟨v10, hv10, hf⟩ := b_lt hf
        refine x_iinc hP (v := v10) (ls2 := [some (.ref 24), some (.ref 21), some (.int l2), some (.int l3), some (.long v9), none, some (.int v10)]) dX8_cutDigits_47 rfl (by rw [hv10]; rfl) rfl rfl ?_
        refine x_goto hP dX8_cutDigits_50 (tgt := 6) (by decide) ?_
        refine x_drop hP [some (.ref 24), some (.ref 21), some (.int l2), some (.int l3), some (.long v9), none, some (.int v10)] (And.intro rfl (And.intro rfl (And.intro rfl (And.intro rfl (And.intro rfl (And.intro rfl trivial)))))) ?_
        exact ih _ _ _ _ _ _ hf hx
set_option maxHeartbeats 1000000 in
set_option maxRecDepth 20000 in
theorem t_X8_cutDigits {g : GG} {d : Nat} (hd : 2 ≤ d) {x2 : Int32} {x3 : Int32} {M : Mem} {r : Int32} {M' : Mem} (hf : f_X8_cutDigits x2 x3 M = some (r, M')) : ExM g d iX8_cutDigits [.ref 24, .ref 21, .int x2, .int x3] LAY M (some (.int r), LAY, M') := by
  have hd1 : 1 ≤ d := by omega
  refine ExM.main pnX8 rfl (ls := [some (.ref 24), some (.ref 21), some (.int x2), some (.int x3), none, none, none]) rfl ?_
  intro P hP
  rw [f_X8_cutDigits] at hf
  refine x_lconst hP dX8_cutDigits_0 (v := 0) rfl ?_
  refine x_lstore hP (ls2 := [some (.ref 24), some (.ref 21), some (.int x2), some (.int x3), some (.long (0 : Int64)), none, none]) dX8_cutDigits_1 rfl rfl ?_
  refine x_iload_n hP dX8_cutDigits_3 rfl ?_
  refine x_istore hP (ls2 := [some (.ref 24), some (.ref 21), some (.int x2), some (.int x3), some (.long (0 : Int64)), none, some (.int x2)]) dX8_cutDigits_4 rfl rfl ?_
  refine x_drop hP [some (.ref 24), some (.ref 21), some (.int x2), some (.int x3), some (.long (0 : Int64)), none, some (.int x2)] (And.intro rfl (And.intro rfl (And.intro rfl (And.intro rfl (And.intro rfl (And.intro rfl trivial)))))) ?_
  obtain ⟨t11, hl12, hf⟩ := b_bd hf
  refine t_X8_cutDigits_L6 hd hP _ _ _ _ _ _ _ hl12 ?_
  refine x_aload_n hP dX8_cutDigits_53 rfl ?_
  refine x_getA hP fX8_18 lay24 (r := 27) rfl dX8_cutDigits_54 ?_
  refine x_iload_n hP dX8_cutDigits_57 rfl ?_
  refine x_lload hP dX8_cutDigits_58 rfl ?_
  obtain ⟨M13, hiM13, hM13, hf⟩ := b_pj hf
  refine y_lst hP lay27 hiM13 hM13 dX8_cutDigits_60 ?_
  refine x_aload_n hP dX8_cutDigits_61 rfl ?_
  refine x_getA hP fX8_11 lay24 (r := 25) rfl dX8_cutDigits_62 ?_
  refine x_iload_n hP dX8_cutDigits_65 rfl ?_
  refine x_iload hP dX8_cutDigits_66 rfl ?_
  refine x_iload_n hP dX8_cutDigits_68 rfl ?_
  refine x_isub hP dX8_cutDigits_69 ?_
  refine x_iconst hP dX8_cutDigits_70 (v := 4) rfl ?_
  obtain ⟨t14, het14, hf⟩ := b_lt hf
  have hj14 : P 79 [none, none, none, none, none, none, some (.int t11.2)] [.int t14, .int x3, .ref 25] LAY M13 := by
    obtain ⟨M16, hiM16, hM16, hf⟩ := b_pg hf
    refine y_ast hP lay25 hiM16 hM16 dX8_cutDigits_79 ?_
    refine x_iload hP dX8_cutDigits_80 rfl ?_
    cases hf
    exact x_iret hP rfl dX8_cutDigits_82
  clear hf
  have hf := het14
  clear het14
  refine x_icmp_le hP dX8_cutDigits_71 (tgt := 78) (by decide) (fun c15 => ?_) (fun c15 => ?_)
  · replace hf := e_t c15 hf
    refine x_iconst hP dX8_cutDigits_78 (v := 3) rfl ?_
    refine x_drop hP [none, none, none, none, none, none, some (.int t11.2)] (And.intro rfl trivial) ?_
    subst hf
    exact hj14
  · replace hf := e_f c15 hf
    refine x_iconst hP dX8_cutDigits_74 (v := 1) rfl ?_
    refine x_goto hP dX8_cutDigits_75 (tgt := 79) (by decide) ?_
    refine x_drop hP [none, none, none, none, none, none, some (.int t11.2)] (And.intro rfl trivial) ?_
    subst hf
    exact hj14
def f_X8_cutOne (x2 : Int32) (x3 : Int32) (M : Mem) : Option (Int32 × Mem) :=
  (f_X7_byteAt x2 M).bind fun v2 =>
  (f_X8_isLetter v2).bind fun v4 =>
  if v4 = 0 then
    (f_X8_isDigit v2).bind fun v7 =>
    if v7 = 0 then
      if v2 = (-1 : Int32) then
        (pg M 25 401 x3 (0 : Int32)).bind fun M10 =>
        some (x2 + (1 : Int32), M10)
      else
        lt (sIx ((v2.toUInt32 % 65536).toInt32) : Int32) fun v11 =>
        lt (
          if v11 < 0 then
            (1 : Int32)
          else
            v2
         : Int32) fun t12 =>
        (pg M 25 401 x3 t12).bind fun M14 =>
        some (x2 + (1 : Int32), M14)
    else
      (f_X8_cutDigits x2 x3 M).bind fun t16 =>
      some (t16.1, t16.2)
  else
    (f_X8_cutLetters x2 x3 M).bind fun t18 =>
    some (t18.1, t18.2)
set_option maxHeartbeats 1000000 in
set_option maxRecDepth 20000 in
theorem t_X8_cutOne {g : GG} {d : Nat} (hd : 6 ≤ d) {x2 : Int32} {x3 : Int32} {M : Mem} {r : Int32} {M' : Mem} (hf : f_X8_cutOne x2 x3 M = some (r, M')) : ExM g d iX8_cutOne [.ref 24, .ref 21, .int x2, .int x3] LAY M (some (.int r), LAY, M') := by
  have hd1 : 1 ≤ d := by omega
  refine ExM.main pnX8 rfl (ls := [some (.ref 24), some (.ref 21), some (.int x2), some (.int x3), none]) rfl ?_
  intro P hP
  rw [f_X8_cutOne] at hf
  refine x_aload_n hP dX8_cutOne_0 rfl ?_
  refine x_iload_n hP dX8_cutOne_1 rfl ?_
  obtain ⟨v2, hc1, hf⟩ := b_bd hf
  refine y_cvi hP oX7_byteAt lX8_49 [.int x2] [] rfl rfl rfl lay21 dX8_cutOne_2 (t_X7_byteAt (d := d - 1) (by omega) hc1) (by omega) ?_
  refine x_istore hP (ls2 := [some (.ref 24), some (.ref 21), some (.int x2), some (.int x3), some (.int v2)]) dX8_cutOne_5 rfl rfl ?_
  refine x_iload hP dX8_cutOne_7 rfl ?_
  obtain ⟨v4, hc3, hf⟩ := b_bd hf
  refine y_csi hP oX8_isLetter lX8_55 [.int v2] [] rfl rfl rfl dX8_cutOne_9 (t_X8_isLetter (d := d - 1) (by omega) hc3) (by omega) ?_
  refine x_if_eq hP dX8_cutOne_12 (tgt := 23) (by decide) (fun c5 => ?_) (fun c5 => ?_)
  · replace hf := p_t c5 hf
    refine x_iload hP dX8_cutOne_23 rfl ?_
    obtain ⟨v7, hc6, hf⟩ := b_bd hf
    refine y_csi hP oX8_isDigit lX8_62 [.int v2] [] rfl rfl rfl dX8_cutOne_25 (t_X8_isDigit (d := d - 1) (by omega) hc6) (by omega) ?_
    refine x_if_eq hP dX8_cutOne_28 (tgt := 39) (by decide) (fun c8 => ?_) (fun c8 => ?_)
    · replace hf := p_t c8 hf
      refine x_iload hP dX8_cutOne_39 rfl ?_
      refine x_iconst hP dX8_cutOne_41 (v := (-1)) rfl ?_
      refine x_icmp_ne hP dX8_cutOne_42 (tgt := 55) (by decide) (fun c9 => ?_) (fun c9 => ?_)
      · replace hf := p_f c9 hf
        refine x_aload_n hP dX8_cutOne_55 rfl ?_
        refine x_getA hP fX8_11 lay24 (r := 25) rfl dX8_cutOne_56 ?_
        refine x_iload_n hP dX8_cutOne_59 rfl ?_
        refine x_ldcS hP rfl dX8_cutOne_60 ?_
        refine x_iload hP dX8_cutOne_62 rfl ?_
        refine x_i2c hP dX8_cutOne_64 ?_
        refine x_callVS (j := iJ0_indexOf_0f7a4) hP kJ0_indexOf_0f7a4 vJ0_indexOf_0f7a4 eJ0_indexOf_0f7a4 rfl lX8_70 [.int ((v2.toUInt32 % 65536).toInt32)] [.int x3, .ref 25] rfl rfl rfl (Or.inr rfl) dX8_cutOne_65 (t_indexOf (d := d - 1) (by omega)) (by omega) ?_
        obtain ⟨v11, hv11, hf⟩ := b_lt hf
        refine y_nmI hv11 ?_
        obtain ⟨t12, het12, hf⟩ := b_lt hf
        have hj12 : P 77 [none, none, some (.int x2), none, none] [.int t12, .int x3, .ref 25] LAY M := by
          obtain ⟨M14, hiM14, hM14, hf⟩ := b_pg hf
          refine y_ast hP lay25 hiM14 hM14 dX8_cutOne_77 ?_
          refine x_iload_n hP dX8_cutOne_78 rfl ?_
          refine x_iconst hP dX8_cutOne_79 (v := 1) rfl ?_
          refine x_iadd hP dX8_cutOne_80 ?_
          cases hf
          exact x_iret hP rfl dX8_cutOne_81
        clear hf
        have hf := het12
        clear het12
        refine x_if_lt hP dX8_cutOne_68 (tgt := 76) (by decide) (fun c13 => ?_) (fun c13 => ?_)
        · replace hf := e_t c13 hf
          refine x_iconst hP dX8_cutOne_76 (v := 1) rfl ?_
          refine x_drop hP [none, none, some (.int x2), none, none] (And.intro rfl trivial) ?_
          subst hf
          exact hj12
        · replace hf := e_f c13 hf
          refine x_iload hP dX8_cutOne_71 rfl ?_
          refine x_goto hP dX8_cutOne_73 (tgt := 77) (by decide) ?_
          refine x_drop hP [none, none, some (.int x2), none, none] (And.intro rfl trivial) ?_
          subst hf
          exact hj12
      · replace hf := p_t c9 hf
        refine x_aload_n hP dX8_cutOne_45 rfl ?_
        refine x_getA hP fX8_11 lay24 (r := 25) rfl dX8_cutOne_46 ?_
        refine x_iload_n hP dX8_cutOne_49 rfl ?_
        refine x_iconst hP dX8_cutOne_50 (v := 0) rfl ?_
        obtain ⟨M10, hiM10, hM10, hf⟩ := b_pg hf
        refine y_ast hP lay25 hiM10 hM10 dX8_cutOne_51 ?_
        refine x_goto hP dX8_cutOne_52 (tgt := 78) (by decide) ?_
        refine x_iload_n hP dX8_cutOne_78 rfl ?_
        refine x_iconst hP dX8_cutOne_79 (v := 1) rfl ?_
        refine x_iadd hP dX8_cutOne_80 ?_
        cases hf
        exact x_iret hP rfl dX8_cutOne_81
    · replace hf := p_f c8 hf
      refine x_aload_n hP dX8_cutOne_31 rfl ?_
      refine x_aload_n hP dX8_cutOne_32 rfl ?_
      refine x_iload_n hP dX8_cutOne_33 rfl ?_
      refine x_iload_n hP dX8_cutOne_34 rfl ?_
      obtain ⟨t16, hc15, hf⟩ := b_bd hf
      refine y_cvi hP oX8_cutDigits lX8_65 [.ref 21, .int x2, .int x3] [] rfl rfl rfl lay24 dX8_cutOne_35 (t_X8_cutDigits (d := d - 1) (by omega) hc15) (by omega) ?_
      cases hf
      exact x_iret hP rfl dX8_cutOne_38
  · replace hf := p_f c5 hf
    refine x_aload_n hP dX8_cutOne_15 rfl ?_
    refine x_aload_n hP dX8_cutOne_16 rfl ?_
    refine x_iload_n hP dX8_cutOne_17 rfl ?_
    refine x_iload_n hP dX8_cutOne_18 rfl ?_
    obtain ⟨t18, hc17, hf⟩ := b_bd hf
    refine y_cvi hP oX8_cutLetters lX8_59 [.ref 21, .int x2, .int x3] [] rfl rfl rfl lay24 dX8_cutOne_19 (t_X8_cutLetters (d := d - 1) (by omega) hc17) (by omega) ?_
    cases hf
    exact x_iret hP rfl dX8_cutOne_22
def f_X8_cutUp_L4 (k : Mem → Option (Mem)) : Nat → Int32 → Int32 → Mem → Option (Mem)
  | 0, _, _, _ => none
  | fu + 1, l2, l3, M =>
    if (401 : Int32) ≤ l3 then
      k M
    else
      (f_X8_behindBlanks l2 M).bind fun v3 =>
      (pg M 26 401 l3 v3).bind fun M4 =>
      (f_X8_cutOne v3 l3 M4).bind fun t6 =>
      (ag t6.2 25 401 l3).bind fun v7 =>
      if v7 = 0 then
        some t6.2
      else
        (ag t6.2 25 401 l3).bind fun v9 =>
        if v9 = (1 : Int32) then
          some t6.2
        else
          lt (l3 + 1 : Int32) fun v11 =>
          f_X8_cutUp_L4 k fu t6.1 v11 t6.2
def f_X8_cutUp (M : Mem) : Option (Mem) :=
  f_X8_cutUp_L4 (fun t12 =>
      some t12
    ) FU (0 : Int32) (0 : Int32) M
set_option maxHeartbeats 1000000 in
set_option maxRecDepth 20000 in
theorem t_X8_cutUp_L4 {g : GG} {d : Nat} {P : PT} {M' : Mem} (hd : 7 ≤ d)   (hP : IsM g iX8_cutUp d (some (none, LAY, M')) P) {k : Mem → Option (Mem)} (hk : ∀ t : Mem, k t = some M' → P 58 [none, none, none, none] [] LAY t) : ∀ (fu : Nat) (l2 : Int32) (l3 : Int32) (M : Mem), f_X8_cutUp_L4 k fu l2 l3 M = some M' → P 4 [some (.ref 24), some (.ref 21), some (.int l2), some (.int l3)] [] LAY M := by
  have hd1 : 1 ≤ d := by omega
  intro fu
  induction fu with
  | zero => intro l2 l3 M hf; simp [f_X8_cutUp_L4] at hf
  | succ fu ih =>
    intro l2 l3 M hf
    rw [f_X8_cutUp_L4] at hf
    refine x_iload_n hP dX8_cutUp_4 rfl ?_
    refine x_sipush hP dX8_cutUp_5 (v := 401) rfl ?_
    refine x_icmp_ge hP dX8_cutUp_8 (tgt := 58) (by decide) (fun c1 => ?_) (fun c1 => ?_)
    · replace hf := p_t c1 hf
      refine x_drop hP [none, none, none, none] trivial ?_
      exact hk _ hf
    · replace hf := p_f c1 hf
      refine x_aload_n hP dX8_cutUp_11 rfl ?_
      refine x_iload_n hP dX8_cutUp_12 rfl ?_
      obtain ⟨v3, hc2, hf⟩ := b_bd hf
      refine y_csi hP oX8_behindBlanks lX8_41 [.ref 21, .int l2] [] rfl rfl rfl dX8_cutUp_13 (t_X8_behindBlanks (d := d - 1) (by omega) hc2) (by omega) ?_
      refine x_istore_n hP (ls2 := [some (.ref 24), some (.ref 21), some (.int v3), some (.int l3)]) dX8_cutUp_16 rfl rfl rfl ?_
      refine x_aload_n hP dX8_cutUp_17 rfl ?_
      refine x_getA hP fX8_15 lay24 (r := 26) rfl dX8_cutUp_18 ?_
      refine x_iload_n hP dX8_cutUp_21 rfl ?_
      refine x_iload_n hP dX8_cutUp_22 rfl ?_
      obtain ⟨M4, hiM4, hM4, hf⟩ := b_pg hf
      refine y_ast hP lay26 hiM4 hM4 dX8_cutUp_23 ?_
      refine x_aload_n hP dX8_cutUp_24 rfl ?_
      refine x_aload_n hP dX8_cutUp_25 rfl ?_
      refine x_iload_n hP dX8_cutUp_26 rfl ?_
      refine x_iload_n hP dX8_cutUp_27 rfl ?_
      obtain ⟨t6, hc5, hf⟩ := b_bd hf
      refine y_cvi hP oX8_cutOne lX8_45 [.ref 21, .int v3, .int l3] [] rfl rfl rfl lay24 dX8_cutUp_28 (t_X8_cutOne (d := d - 1) (by omega) hc5) (by omega) ?_
      refine x_istore_n hP (ls2 := [some (.ref 24), some (.ref 21), some (.int t6.1), some (.int l3)]) dX8_cutUp_31 rfl rfl rfl ?_
      refine x_aload_n hP dX8_cutUp_32 rfl ?_
      refine x_getA hP fX8_11 lay24 (r := 25) rfl dX8_cutUp_33 ?_
      refine x_iload_n hP dX8_cutUp_36 rfl ?_
      obtain ⟨v7, hiv7, hv7, hf⟩ := b_ag hf
      refine y_ald hP lay25 hiv7 hv7 dX8_cutUp_37 ?_
      refine x_if_eq hP dX8_cutUp_38 (tgt := 51) (by decide) (fun c8 => ?_) (fun c8 => ?_)
      · replace hf := p_t c8 hf
        cases hf
        exact x_vret hP rfl dX8_cutUp_51
      · replace hf := p_f c8 hf
        refine x_aload_n hP dX8_cutUp_41 rfl ?_
        refine x_getA hP fX8_11 lay24 (r := 25) rfl dX8_cutUp_42 ?_
        refine x_iload_n hP dX8_cutUp_45 rfl ?_
        obtain ⟨v9, hiv9, hv9, hf⟩ := b_ag hf
        refine y_ald hP lay25 hiv9 hv9 dX8_cutUp_46 ?_
        refine x_iconst hP dX8_cutUp_47 (v := 1) rfl ?_
        refine x_icmp_ne hP dX8_cutUp_48 (tgt := 52) (by decide) (fun c10 => ?_) (fun c10 => ?_)
        · replace hf := p_f c10 hf
          obtain ⟨v11, hv11, hf⟩ := b_lt hf
          refine x_iinc hP (v := v11) (ls2 := [some (.ref 24), some (.ref 21), some (.int t6.1), some (.int v11)]) dX8_cutUp_52 rfl (by rw [hv11]; rfl) rfl rfl ?_
          refine x_goto hP dX8_cutUp_55 (tgt := 4) (by decide) ?_
          refine x_drop hP [some (.ref 24), some (.ref 21), some (.int t6.1), some (.int v11)] (And.intro rfl (And.intro rfl (And.intro rfl (And.intro rfl trivial)))) ?_
          exact ih _ _ _ hf
        · replace hf := p_t c10 hf
          cases hf
          exact x_vret hP rfl dX8_cutUp_51
set_option maxHeartbeats 1000000 in
set_option maxRecDepth 20000 in
theorem t_X8_cutUp {g : GG} {d : Nat} (hd : 7 ≤ d) {M : Mem} {M' : Mem} (hf : f_X8_cutUp M = some M') : ExM g d iX8_cutUp [.ref 24, .ref 21] LAY M (none, LAY, M') := by
  have hd1 : 1 ≤ d := by omega
  refine ExM.main pnX8 rfl (ls := [some (.ref 24), some (.ref 21), none, none]) rfl ?_
  intro P hP
  rw [f_X8_cutUp] at hf
  refine x_iconst hP dX8_cutUp_0 (v := 0) rfl ?_
  refine x_istore_n hP (ls2 := [some (.ref 24), some (.ref 21), some (.int (0 : Int32)), none]) dX8_cutUp_1 rfl rfl rfl ?_
  refine x_iconst hP dX8_cutUp_2 (v := 0) rfl ?_
  refine x_istore_n hP (ls2 := [some (.ref 24), some (.ref 21), some (.int (0 : Int32)), some (.int (0 : Int32))]) dX8_cutUp_3 rfl rfl rfl ?_
  refine x_drop hP [some (.ref 24), some (.ref 21), some (.int (0 : Int32)), some (.int (0 : Int32))] (And.intro rfl (And.intro rfl (And.intro rfl (And.intro rfl trivial)))) ?_
  refine t_X8_cutUp_L4 hd hP (fun t12 hf => ?_) _ _ _ _ hf
  cases hf
  exact x_vret hP rfl dX8_cutUp_58

-- by program: wip/whole/gen/build_parts.py
def f_X11_feed (x1 : Int32) (x2 : Int32) (x3 : Int32) (x4 : Int32) (x5 : Int32) (M : Mem) : Option (Int32 × Mem) :=
  if M.1 21 1 ≤ (1980 : Int32) then
    (f_X7_append x1 M).bind fun M3 =>
    (f_X7_append x2 M3).bind fun M5 =>
    (f_X7_append x3 M5).bind fun M7 =>
    (f_X7_append x4 M7).bind fun M9 =>
    (f_X7_append x5 M9).bind fun M11 =>
    some (M11.1 21 1, M11)
  else
    some ((-1 : Int32), M)
set_option maxHeartbeats 1000000 in
set_option maxRecDepth 20000 in
theorem t_X11_feed {g : GG} {d : Nat} (hd : 2 ≤ d) {x1 : Int32} {x2 : Int32} {x3 : Int32} {x4 : Int32} {x5 : Int32} {M : Mem} {r : Int32} {M' : Mem} (hf : f_X11_feed x1 x2 x3 x4 x5 M = some (r, M')) : ExM g d iX11_feed [.ref 0, .int x1, .int x2, .int x3, .int x4, .int x5] LAY M (some (.int r), LAY, M') := by
  have hd1 : 1 ≤ d := by omega
  refine ExM.main pnX11 rfl (ls := [some (.ref 0), some (.int x1), some (.int x2), some (.int x3), some (.int x4), some (.int x5)]) rfl ?_
  intro P hP
  rw [f_X11_feed] at hf
  refine x_aload_n hP dX11_feed_0 rfl ?_
  refine x_getO hP fX11_13 lay0 (r := 21) rfl dX11_feed_1 ?_
  refine x_getI hP fX11_88 lay21 dX11_feed_4 ?_
  refine x_sipush hP dX11_feed_7 (v := 1980) rfl ?_
  refine x_icmp_le hP dX11_feed_10 (tgt := 15) (by decide) (fun c1 => ?_) (fun c1 => ?_)
  · replace hf := p_t c1 hf
    refine x_aload_n hP dX11_feed_15 rfl ?_
    refine x_getO hP fX11_13 lay0 (r := 21) rfl dX11_feed_16 ?_
    refine x_iload_n hP dX11_feed_19 rfl ?_
    obtain ⟨M3, hc2, hf⟩ := b_bd hf
    refine y_cvv hP oX7_append lX11_91 [.int x1] [] rfl rfl rfl lay21 dX11_feed_20 (t_X7_append (d := d - 1) (by omega) hc2) (by omega) ?_
    refine x_aload_n hP dX11_feed_23 rfl ?_
    refine x_getO hP fX11_13 lay0 (r := 21) rfl dX11_feed_24 ?_
    refine x_iload_n hP dX11_feed_27 rfl ?_
    obtain ⟨M5, hc4, hf⟩ := b_bd hf
    refine y_cvv hP oX7_append lX11_91 [.int x2] [] rfl rfl rfl lay21 dX11_feed_28 (t_X7_append (d := d - 1) (by omega) hc4) (by omega) ?_
    refine x_aload_n hP dX11_feed_31 rfl ?_
    refine x_getO hP fX11_13 lay0 (r := 21) rfl dX11_feed_32 ?_
    refine x_iload_n hP dX11_feed_35 rfl ?_
    obtain ⟨M7, hc6, hf⟩ := b_bd hf
    refine y_cvv hP oX7_append lX11_91 [.int x3] [] rfl rfl rfl lay21 dX11_feed_36 (t_X7_append (d := d - 1) (by omega) hc6) (by omega) ?_
    refine x_aload_n hP dX11_feed_39 rfl ?_
    refine x_getO hP fX11_13 lay0 (r := 21) rfl dX11_feed_40 ?_
    refine x_iload hP dX11_feed_43 rfl ?_
    obtain ⟨M9, hc8, hf⟩ := b_bd hf
    refine y_cvv hP oX7_append lX11_91 [.int x4] [] rfl rfl rfl lay21 dX11_feed_45 (t_X7_append (d := d - 1) (by omega) hc8) (by omega) ?_
    refine x_aload_n hP dX11_feed_48 rfl ?_
    refine x_getO hP fX11_13 lay0 (r := 21) rfl dX11_feed_49 ?_
    refine x_iload hP dX11_feed_52 rfl ?_
    obtain ⟨M11, hc10, hf⟩ := b_bd hf
    refine y_cvv hP oX7_append lX11_91 [.int x5] [] rfl rfl rfl lay21 dX11_feed_54 (t_X7_append (d := d - 1) (by omega) hc10) (by omega) ?_
    refine x_aload_n hP dX11_feed_57 rfl ?_
    refine x_getO hP fX11_13 lay0 (r := 21) rfl dX11_feed_58 ?_
    refine x_getI hP fX11_88 lay21 dX11_feed_61 ?_
    cases hf
    exact x_iret hP rfl dX11_feed_64
  · replace hf := p_f c1 hf
    refine x_iconst hP dX11_feed_13 (v := (-1)) rfl ?_
    cases hf
    exact x_iret hP rfl dX11_feed_14
def f_X11_back (x1 : Int32) (M : Mem) : Option (Int32 × Mem) :=
  if x1 < 0 then
    some ((-1 : Int32), M)
  else
    if x1 ≤ M.1 21 1 then
      lt (sI M 21 1 ((M.1 21 1) - x1)) fun M3 =>
      some (M3.1 21 1, M3)
    else
      some ((-1 : Int32), M)
set_option maxHeartbeats 1000000 in
set_option maxRecDepth 20000 in
theorem t_X11_back {g : GG} {d : Nat} (hd : 1 ≤ d) {x1 : Int32} {M : Mem} {r : Int32} {M' : Mem} (hf : f_X11_back x1 M = some (r, M')) : ExM g d iX11_back [.ref 0, .int x1] LAY M (some (.int r), LAY, M') := by
  have hd1 : 1 ≤ d := by omega
  refine ExM.main pnX11 rfl (ls := [some (.ref 0), some (.int x1)]) rfl ?_
  intro P hP
  rw [f_X11_back] at hf
  refine x_iload_n hP dX11_back_0 rfl ?_
  refine x_if_lt hP dX11_back_1 (tgt := 15) (by decide) (fun c1 => ?_) (fun c1 => ?_)
  · replace hf := p_t c1 hf
    refine x_iconst hP dX11_back_15 (v := (-1)) rfl ?_
    cases hf
    exact x_iret hP rfl dX11_back_16
  · replace hf := p_f c1 hf
    refine x_iload_n hP dX11_back_4 rfl ?_
    refine x_aload_n hP dX11_back_5 rfl ?_
    refine x_getO hP fX11_13 lay0 (r := 21) rfl dX11_back_6 ?_
    refine x_getI hP fX11_88 lay21 dX11_back_9 ?_
    refine x_icmp_le hP dX11_back_12 (tgt := 17) (by decide) (fun c2 => ?_) (fun c2 => ?_)
    · replace hf := p_t c2 hf
      refine x_aload_n hP dX11_back_17 rfl ?_
      refine x_getO hP fX11_13 lay0 (r := 21) rfl dX11_back_18 ?_
      refine x_dup hP dX11_back_21 rfl ?_
      refine x_getI hP fX11_88 lay21 dX11_back_22 ?_
      refine x_iload_n hP dX11_back_25 rfl ?_
      refine x_isub hP dX11_back_26 ?_
      obtain ⟨M3, hM3, hf⟩ := b_lt hf
      refine y_putI hP fX11_88 lay21 hM3 dX11_back_27 ?_
      refine x_aload_n hP dX11_back_30 rfl ?_
      refine x_getO hP fX11_13 lay0 (r := 21) rfl dX11_back_31 ?_
      refine x_getI hP fX11_88 lay21 dX11_back_34 ?_
      cases hf
      exact x_iret hP rfl dX11_back_37
    · replace hf := p_f c2 hf
      refine x_iconst hP dX11_back_15 (v := (-1)) rfl ?_
      cases hf
      exact x_iret hP rfl dX11_back_16
def f_X11_settle (M : Mem) : Option (Mem) :=
  (rT M 0 9).bind fun t1 =>
  (rT M 0 10).bind fun t2 =>
  lt (sR M 0 9 (some t2)) fun M3 =>
  lt (sR M3 0 10 (some t1)) fun M4 =>
  (rT M4 0 9).bind fun t5 =>
  (f_X3_begin 60 t5 M4).bind fun M7 =>
  (f_X4_clear M7).bind fun M9 =>
  lt (sI M9 53 0 (0 : Int32)) fun M10 =>
  lt (sI M10 48 2 (1 : Int32)) fun M11 =>
  some M11
set_option maxHeartbeats 1000000 in
set_option maxRecDepth 20000 in
theorem t_X11_settle {g : GG} {d : Nat} (hd : 3 ≤ d) {M : Mem} {M' : Mem} (hf : f_X11_settle M = some M') : ExM g d iX11_settle [.ref 0] LAY M (none, LAY, M') := by
  have hd1 : 1 ≤ d := by omega
  refine ExM.main pnX11 rfl (ls := [some (.ref 0), none]) rfl ?_
  intro P hP
  rw [f_X11_settle] at hf
  refine x_aload_n hP dX11_settle_0 rfl ?_
  obtain ⟨t1, ht1, hrt1, hf⟩ := b_rT hf
  refine x_getM hP fX11_77 lay0 hrt1 dX11_settle_1 ?_
  refine x_astore_n hP (ls2 := [some (.ref 0), some (.ref t1)]) dX11_settle_4 rfl rfl rfl ?_
  refine x_aload_n hP dX11_settle_5 rfl ?_
  refine x_aload_n hP dX11_settle_6 rfl ?_
  obtain ⟨t2, ht2, hrt2, hf⟩ := b_rT hf
  refine x_getM hP fX11_81 lay0 hrt2 dX11_settle_7 ?_
  obtain ⟨M3, hM3, hf⟩ := b_lt hf
  refine y_putM hP fX11_77 lay0 hM3 dX11_settle_10 ?_
  refine x_aload_n hP dX11_settle_13 rfl ?_
  refine x_aload_n hP dX11_settle_14 rfl ?_
  obtain ⟨M4, hM4, hf⟩ := b_lt hf
  refine y_putM hP fX11_81 lay0 hM4 dX11_settle_15 ?_
  refine x_aload_n hP dX11_settle_18 rfl ?_
  refine x_getO hP fX11_73 lay0 (r := 60) rfl dX11_settle_19 ?_
  refine x_aload_n hP dX11_settle_22 rfl ?_
  obtain ⟨t5, ht5, hrt5, hf⟩ := b_rT hf
  refine x_getM hP fX11_77 lay0 hrt5 dX11_settle_23 ?_
  obtain ⟨M7, hc6, hf⟩ := b_bd hf
  refine y_cvv hP oX3_begin lX11_377 [.ref t5] [] rfl rfl rfl lay60 dX11_settle_26 (t_X3_begin (d := d - 1) (by omega) isN_60 ht5 hc6) (by omega) ?_
  refine x_aload_n hP dX11_settle_29 rfl ?_
  refine x_getO hP fX11_66 lay0 (r := 57) rfl dX11_settle_30 ?_
  obtain ⟨M9, hc8, hf⟩ := b_bd hf
  refine y_cvv hP oX4_clear lX11_380 [] [] rfl rfl rfl lay57 dX11_settle_33 (t_X4_clear (d := d - 1) (by omega) hc8) (by omega) ?_
  refine x_aload_n hP dX11_settle_36 rfl ?_
  refine x_getO hP fX11_59 lay0 (r := 53) rfl dX11_settle_37 ?_
  refine x_iconst hP dX11_settle_40 (v := 0) rfl ?_
  obtain ⟨M10, hM10, hf⟩ := b_lt hf
  refine y_putI hP fX11_329 lay53 hM10 dX11_settle_41 ?_
  refine x_aload_n hP dX11_settle_44 rfl ?_
  refine x_getO hP fX11_52 lay0 (r := 48) rfl dX11_settle_45 ?_
  refine x_iconst hP dX11_settle_48 (v := 1) rfl ?_
  obtain ⟨M11, hM11, hf⟩ := b_lt hf
  refine y_putZ hP fX11_227 (Or.inr rfl) lay48 hM11 dX11_settle_49 ?_
  cases hf
  exact x_vret hP rfl dX11_settle_52
def f_X11_read (M : Mem) : Option (Int32 × Mem) :=
  (rT M 0 10).bind fun t1 =>
  (f_X6_readInto t1 M).bind fun t3 =>
  lt (sI t3.2 21 1 (0 : Int32)) fun M4 =>
  lt (sI M4 0 11 (M4.1 23 0)) fun M5 =>
  if t3.1 = 0 then
    (f_X11_settle M5).bind fun M8 =>
    some (t3.1, M8)
  else
    some (t3.1, M5)
set_option maxHeartbeats 1000000 in
set_option maxRecDepth 20000 in
theorem t_X11_read {g : GG} {d : Nat} (hd : 49 ≤ d) {M : Mem} {r : Int32} {M' : Mem} (hf : f_X11_read M = some (r, M')) : ExM g d iX11_read [.ref 0] LAY M (some (.int r), LAY, M') := by
  have hd1 : 1 ≤ d := by omega
  refine ExM.main pnX11 rfl (ls := [some (.ref 0), none]) rfl ?_
  intro P hP
  rw [f_X11_read] at hf
  refine x_aload_n hP dX11_read_0 rfl ?_
  refine x_getO hP fX11_24 lay0 (r := 23) rfl dX11_read_1 ?_
  refine x_aload_n hP dX11_read_4 rfl ?_
  refine x_getO hP fX11_13 lay0 (r := 21) rfl dX11_read_5 ?_
  refine x_aload_n hP dX11_read_8 rfl ?_
  obtain ⟨t1, ht1, hrt1, hf⟩ := b_rT hf
  refine x_getM hP fX11_81 lay0 hrt1 dX11_read_9 ?_
  obtain ⟨t3, hc2, hf⟩ := b_bd hf
  refine y_cvi hP oX6_readInto lX11_95 [.ref 21, .ref t1] [] rfl rfl rfl lay23 dX11_read_12 (t_X6_readInto (d := d - 1) (by omega) ht1 hc2) (by omega) ?_
  refine x_istore_n hP (ls2 := [some (.ref 0), some (.int t3.1)]) dX11_read_15 rfl rfl rfl ?_
  refine x_aload_n hP dX11_read_16 rfl ?_
  refine x_getO hP fX11_13 lay0 (r := 21) rfl dX11_read_17 ?_
  refine x_iconst hP dX11_read_20 (v := 0) rfl ?_
  obtain ⟨M4, hM4, hf⟩ := b_lt hf
  refine y_putI hP fX11_88 lay21 hM4 dX11_read_21 ?_
  refine x_aload_n hP dX11_read_24 rfl ?_
  refine x_aload_n hP dX11_read_25 rfl ?_
  refine x_getO hP fX11_24 lay0 (r := 23) rfl dX11_read_26 ?_
  refine x_getI hP fX11_99 lay23 dX11_read_29 ?_
  obtain ⟨M5, hM5, hf⟩ := b_lt hf
  refine y_putI hP fX11_84 lay0 hM5 dX11_read_32 ?_
  refine x_iload_n hP dX11_read_35 rfl ?_
  refine x_if_ne hP dX11_read_36 (tgt := 43) (by decide) (fun c6 => ?_) (fun c6 => ?_)
  · replace hf := p_f c6 hf
    refine x_iload_n hP dX11_read_43 rfl ?_
    cases hf
    exact x_iret hP rfl dX11_read_44
  · replace hf := p_t c6 hf
    refine x_aload_n hP dX11_read_39 rfl ?_
    obtain ⟨M8, hc7, hf⟩ := b_bd hf
    refine y_cvv hP oX11_settle lX11_100 [] [] rfl rfl rfl lay0 dX11_read_40 (t_X11_settle (d := d - 1) (by omega) hc7) (by omega) ?_
    refine x_iload_n hP dX11_read_43 rfl ?_
    cases hf
    exact x_iret hP rfl dX11_read_44
def f_X11_place (M : Mem) : Option (Int32) :=
  some (M.1 0 11)
set_option maxHeartbeats 1000000 in
set_option maxRecDepth 20000 in
theorem t_X11_place {g : GG} {d : Nat} (hd : 1 ≤ d) {M : Mem} {r : Int32} (hf : f_X11_place M = some r) : ExM g d iX11_place [.ref 0] LAY M (some (.int r), LAY, M) := by
  have hd1 : 1 ≤ d := by omega
  refine ExM.main pnX11 rfl (ls := [some (.ref 0)]) rfl ?_
  intro P hP
  rw [f_X11_place] at hf
  refine x_aload_n hP dX11_place_0 rfl ?_
  refine x_getI hP fX11_84 lay0 dX11_place_1 ?_
  cases hf
  exact x_iret hP rfl dX11_place_4
def f_X11_isCorner (x1 : Int32) (M : Mem) : Option (Int32) :=
  if x1 < 0 then
    some (0 : Int32)
  else
    (rT M 0 9).bind fun t2 =>
    if M.1 t2 10 ≤ x1 then
      some (0 : Int32)
    else
      some (1 : Int32)
set_option maxHeartbeats 1000000 in
set_option maxRecDepth 20000 in
theorem t_X11_isCorner {g : GG} {d : Nat} (hd : 1 ≤ d) {x1 : Int32} {M : Mem} {r : Int32} (hf : f_X11_isCorner x1 M = some r) : ExM g d iX11_isCorner [.ref 0, .int x1] LAY M (some (.int r), LAY, M) := by
  have hd1 : 1 ≤ d := by omega
  refine ExM.main pnX11 rfl (ls := [some (.ref 0), some (.int x1)]) rfl ?_
  intro P hP
  rw [f_X11_isCorner] at hf
  refine x_iload_n hP dX11_isCorner_0 rfl ?_
  refine x_if_lt hP dX11_isCorner_1 (tgt := 19) (by decide) (fun c1 => ?_) (fun c1 => ?_)
  · replace hf := p_t c1 hf
    refine x_iconst hP dX11_isCorner_19 (v := 0) rfl ?_
    cases hf
    exact x_zret hP rfl (Or.inl rfl) dX11_isCorner_20
  · replace hf := p_f c1 hf
    refine x_iload_n hP dX11_isCorner_4 rfl ?_
    refine x_aload_n hP dX11_isCorner_5 rfl ?_
    obtain ⟨t2, ht2, hrt2, hf⟩ := b_rT hf
    refine x_getM hP fX11_77 lay0 hrt2 dX11_isCorner_6 ?_
    refine x_getI hP fX11_268 (layT ht2) dX11_isCorner_9 ?_
    refine x_icmp_ge hP dX11_isCorner_12 (tgt := 19) (by decide) (fun c3 => ?_) (fun c3 => ?_)
    · replace hf := p_t c3 hf
      refine x_iconst hP dX11_isCorner_19 (v := 0) rfl ?_
      cases hf
      exact x_zret hP rfl (Or.inl rfl) dX11_isCorner_20
    · replace hf := p_f c3 hf
      refine x_iconst hP dX11_isCorner_15 (v := 1) rfl ?_
      refine x_goto hP dX11_isCorner_16 (tgt := 20) (by decide) ?_
      cases hf
      exact x_zret hP rfl (Or.inr rfl) dX11_isCorner_20
def f_X11_corner (x1 : Int32) (x2 : Int32) (M : Mem) : Option (Int32) :=
  (f_X11_isCorner x1 M).bind fun v2 =>
  if v2 = 0 then
    some (-1 : Int32)
  else
    if x2 = 0 then
      (f_X3_lightAt 60 x1 M).bind fun v6 =>
      some v6
    else
    if x2 = 1 then
      (f_X3_whoIsAt 60 x1 M).bind fun v9 =>
      some v9
    else
    if x2 = 2 then
      if M.1 60 2 = x1 then
        some (1 : Int32)
      else
        some (0 : Int32)
    else
    if x2 = 3 then
      (rT M 0 9).bind fun t13 =>
      (f_X9_streetsOf t13 x1 M).bind fun v15 =>
      some v15
    else
    some (-1 : Int32)
set_option maxHeartbeats 1000000 in
set_option maxRecDepth 20000 in
theorem t_X11_corner {g : GG} {d : Nat} (hd : 3 ≤ d) {x1 : Int32} {x2 : Int32} {M : Mem} {r : Int32} (hf : f_X11_corner x1 x2 M = some r) : ExM g d iX11_corner [.ref 0, .int x1, .int x2] LAY M (some (.int r), LAY, M) := by
  have hd1 : 1 ≤ d := by omega
  refine ExM.main pnX11 rfl (ls := [some (.ref 0), some (.int x1), some (.int x2)]) rfl ?_
  intro P hP
  rw [f_X11_corner] at hf
  refine x_aload_n hP dX11_corner_0 rfl ?_
  refine x_iload_n hP dX11_corner_1 rfl ?_
  obtain ⟨v2, hc1, hf⟩ := b_bd hf
  refine y_cvi hP oX11_isCorner lX11_103 [.int x1] [] rfl rfl rfl lay0 dX11_corner_2 (t_X11_isCorner (d := d - 1) (by omega) hc1) (by omega) ?_
  refine x_if_ne hP dX11_corner_5 (tgt := 10) (by decide) (fun c3 => ?_) (fun c3 => ?_)
  · replace hf := p_f c3 hf
    refine x_iload_n hP dX11_corner_10 rfl ?_
    by_cases c4 : x2 = 0
    · refine x_tswE hP dX11_corner_11 c4 (by decide) (by decide) (off := 29) rfl (tgt := 40) (by decide) ?_
      replace hf := p_t c4 hf
      refine x_aload_n hP dX11_corner_40 rfl ?_
      refine x_getO hP fX11_73 lay0 (r := 60) rfl dX11_corner_41 ?_
      refine x_iload_n hP dX11_corner_44 rfl ?_
      obtain ⟨v6, hc5, hf⟩ := b_bd hf
      refine y_cvi hP oX3_lightAt lX11_107 [.int x1] [] rfl rfl rfl lay60 dX11_corner_45 (t_X3_lightAt (d := d - 1) (by omega) isN_60 hc5) (by omega) ?_
      cases hf
      exact x_iret hP rfl dX11_corner_48
    replace hf := p_f c4 hf
    by_cases c7 : x2 = 1
    · refine x_tswE hP dX11_corner_11 c7 (by decide) (by decide) (off := 38) rfl (tgt := 49) (by decide) ?_
      replace hf := p_t c7 hf
      refine x_aload_n hP dX11_corner_49 rfl ?_
      refine x_getO hP fX11_73 lay0 (r := 60) rfl dX11_corner_50 ?_
      refine x_iload_n hP dX11_corner_53 rfl ?_
      obtain ⟨v9, hc8, hf⟩ := b_bd hf
      refine y_cvi hP oX3_whoIsAt lX11_111 [.int x1] [] rfl rfl rfl lay60 dX11_corner_54 (t_X3_whoIsAt (d := d - 1) (by omega) isN_60 hc8) (by omega) ?_
      cases hf
      exact x_iret hP rfl dX11_corner_57
    replace hf := p_f c7 hf
    by_cases c10 : x2 = 2
    · refine x_tswE hP dX11_corner_11 c10 (by decide) (by decide) (off := 47) rfl (tgt := 58) (by decide) ?_
      replace hf := p_t c10 hf
      refine x_aload_n hP dX11_corner_58 rfl ?_
      refine x_getO hP fX11_73 lay0 (r := 60) rfl dX11_corner_59 ?_
      refine x_getI hP fX11_114 lay60 dX11_corner_62 ?_
      refine x_iload_n hP dX11_corner_65 rfl ?_
      refine x_icmp_ne hP dX11_corner_66 (tgt := 73) (by decide) (fun c11 => ?_) (fun c11 => ?_)
      · replace hf := p_f c11 hf
        refine x_iconst hP dX11_corner_73 (v := 0) rfl ?_
        cases hf
        exact x_iret hP rfl dX11_corner_74
      · replace hf := p_t c11 hf
        refine x_iconst hP dX11_corner_69 (v := 1) rfl ?_
        refine x_goto hP dX11_corner_70 (tgt := 74) (by decide) ?_
        cases hf
        exact x_iret hP rfl dX11_corner_74
    replace hf := p_f c10 hf
    by_cases c12 : x2 = 3
    · refine x_tswE hP dX11_corner_11 c12 (by decide) (by decide) (off := 64) rfl (tgt := 75) (by decide) ?_
      replace hf := p_t c12 hf
      refine x_aload_n hP dX11_corner_75 rfl ?_
      obtain ⟨t13, ht13, hrt13, hf⟩ := b_rT hf
      refine x_getM hP fX11_77 lay0 hrt13 dX11_corner_76 ?_
      refine x_iload_n hP dX11_corner_79 rfl ?_
      obtain ⟨v15, hc14, hf⟩ := b_bd hf
      refine y_cvi hP oX9_streetsOf lX11_117 [.int x1] [] rfl rfl rfl (layT ht13) dX11_corner_80 (t_X9_streetsOf (d := d - 1) (by omega) ht13 hc14) (by omega) ?_
      cases hf
      exact x_iret hP rfl dX11_corner_83
    replace hf := p_f c12 hf
    refine x_tswD hP dX11_corner_11 [0, 1, 2, 3] (And.intro (neI c4) (And.intro (neI c7) (And.intro (neI c10) (And.intro (neI c12) trivial)))) (by decide) (by decide) (tgt := 84) (by decide) ?_
    refine x_iconst hP dX11_corner_84 (v := (-1)) rfl ?_
    cases hf
    exact x_iret hP rfl dX11_corner_85
  · replace hf := p_t c3 hf
    refine x_iconst hP dX11_corner_8 (v := (-1)) rfl ?_
    cases hf
    exact x_iret hP rfl dX11_corner_9
def f_X11_isStreet (x1 : Int32) (M : Mem) : Option (Int32) :=
  if x1 < 0 then
    some (0 : Int32)
  else
    (rT M 0 9).bind fun t2 =>
    if M.1 t2 11 ≤ x1 then
      some (0 : Int32)
    else
      some (1 : Int32)
set_option maxHeartbeats 1000000 in
set_option maxRecDepth 20000 in
theorem t_X11_isStreet {g : GG} {d : Nat} (hd : 1 ≤ d) {x1 : Int32} {M : Mem} {r : Int32} (hf : f_X11_isStreet x1 M = some r) : ExM g d iX11_isStreet [.ref 0, .int x1] LAY M (some (.int r), LAY, M) := by
  have hd1 : 1 ≤ d := by omega
  refine ExM.main pnX11 rfl (ls := [some (.ref 0), some (.int x1)]) rfl ?_
  intro P hP
  rw [f_X11_isStreet] at hf
  refine x_iload_n hP dX11_isStreet_0 rfl ?_
  refine x_if_lt hP dX11_isStreet_1 (tgt := 19) (by decide) (fun c1 => ?_) (fun c1 => ?_)
  · replace hf := p_t c1 hf
    refine x_iconst hP dX11_isStreet_19 (v := 0) rfl ?_
    cases hf
    exact x_zret hP rfl (Or.inl rfl) dX11_isStreet_20
  · replace hf := p_f c1 hf
    refine x_iload_n hP dX11_isStreet_4 rfl ?_
    refine x_aload_n hP dX11_isStreet_5 rfl ?_
    obtain ⟨t2, ht2, hrt2, hf⟩ := b_rT hf
    refine x_getM hP fX11_77 lay0 hrt2 dX11_isStreet_6 ?_
    refine x_getI hP fX11_354 (layT ht2) dX11_isStreet_9 ?_
    refine x_icmp_ge hP dX11_isStreet_12 (tgt := 19) (by decide) (fun c3 => ?_) (fun c3 => ?_)
    · replace hf := p_t c3 hf
      refine x_iconst hP dX11_isStreet_19 (v := 0) rfl ?_
      cases hf
      exact x_zret hP rfl (Or.inl rfl) dX11_isStreet_20
    · replace hf := p_f c3 hf
      refine x_iconst hP dX11_isStreet_15 (v := 1) rfl ?_
      refine x_goto hP dX11_isStreet_16 (tgt := 20) (by decide) ?_
      cases hf
      exact x_zret hP rfl (Or.inr rfl) dX11_isStreet_20
def f_X11_street (x1 : Int32) (x2 : Int32) (M : Mem) : Option (Int32) :=
  (f_X11_isStreet x1 M).bind fun v2 =>
  if v2 = 0 then
    some (-1 : Int32)
  else
    if x2 = 0 then
      (rT M 0 9).bind fun t5 =>
      (ag M (t5 + 1) 10 x1).bind fun v6 =>
      some v6
    else
    if x2 = 1 then
      (rT M 0 9).bind fun t8 =>
      (ag M (t8 + 2) 10 x1).bind fun v9 =>
      some v9
    else
    if x2 = 2 then
      (rT M 0 9).bind fun t11 =>
      (ag M (t11 + 3) 10 x1).bind fun v12 =>
      some v12
    else
    if x2 = 3 then
      (f_X3_isLit 60 x1 M).bind fun v15 =>
      if v15 = 0 then
        some (0 : Int32)
      else
        some (1 : Int32)
    else
    if x2 = 4 then
      (f_X3_needsOf 60 x1 M).bind fun v19 =>
      some v19
    else
    some (-1 : Int32)
set_option maxHeartbeats 1000000 in
set_option maxRecDepth 20000 in
theorem t_X11_street {g : GG} {d : Nat} (hd : 4 ≤ d) {x1 : Int32} {x2 : Int32} {M : Mem} {r : Int32} (hf : f_X11_street x1 x2 M = some r) : ExM g d iX11_street [.ref 0, .int x1, .int x2] LAY M (some (.int r), LAY, M) := by
  have hd1 : 1 ≤ d := by omega
  refine ExM.main pnX11 rfl (ls := [some (.ref 0), some (.int x1), some (.int x2)]) rfl ?_
  intro P hP
  rw [f_X11_street] at hf
  refine x_aload_n hP dX11_street_0 rfl ?_
  refine x_iload_n hP dX11_street_1 rfl ?_
  obtain ⟨v2, hc1, hf⟩ := b_bd hf
  refine y_cvi hP oX11_isStreet lX11_120 [.int x1] [] rfl rfl rfl lay0 dX11_street_2 (t_X11_isStreet (d := d - 1) (by omega) hc1) (by omega) ?_
  refine x_if_ne hP dX11_street_5 (tgt := 10) (by decide) (fun c3 => ?_) (fun c3 => ?_)
  · replace hf := p_f c3 hf
    refine x_iload_n hP dX11_street_10 rfl ?_
    by_cases c4 : x2 = 0
    · refine x_tswE hP dX11_street_11 c4 (by decide) (by decide) (off := 33) rfl (tgt := 44) (by decide) ?_
      replace hf := p_t c4 hf
      refine x_aload_n hP dX11_street_44 rfl ?_
      obtain ⟨t5, ht5, hrt5, hf⟩ := b_rT hf
      refine x_getM hP fX11_77 lay0 hrt5 dX11_street_45 ?_
      refine x_getA hP fX11_123 (layT ht5) (r := t5 + 1) rfl dX11_street_48 ?_
      refine x_iload_n hP dX11_street_51 rfl ?_
      obtain ⟨v6, hiv6, hv6, hf⟩ := b_ag hf
      refine y_ald hP (layT_1 ht5) hiv6 hv6 dX11_street_52 ?_
      cases hf
      exact x_iret hP rfl dX11_street_53
    replace hf := p_f c4 hf
    by_cases c7 : x2 = 1
    · refine x_tswE hP dX11_street_11 c7 (by decide) (by decide) (off := 43) rfl (tgt := 54) (by decide) ?_
      replace hf := p_t c7 hf
      refine x_aload_n hP dX11_street_54 rfl ?_
      obtain ⟨t8, ht8, hrt8, hf⟩ := b_rT hf
      refine x_getM hP fX11_77 lay0 hrt8 dX11_street_55 ?_
      refine x_getA hP fX11_127 (layT ht8) (r := t8 + 2) rfl dX11_street_58 ?_
      refine x_iload_n hP dX11_street_61 rfl ?_
      obtain ⟨v9, hiv9, hv9, hf⟩ := b_ag hf
      refine y_ald hP (layT_2 ht8) hiv9 hv9 dX11_street_62 ?_
      cases hf
      exact x_iret hP rfl dX11_street_63
    replace hf := p_f c7 hf
    by_cases c10 : x2 = 2
    · refine x_tswE hP dX11_street_11 c10 (by decide) (by decide) (off := 53) rfl (tgt := 64) (by decide) ?_
      replace hf := p_t c10 hf
      refine x_aload_n hP dX11_street_64 rfl ?_
      obtain ⟨t11, ht11, hrt11, hf⟩ := b_rT hf
      refine x_getM hP fX11_77 lay0 hrt11 dX11_street_65 ?_
      refine x_getA hP fX11_130 (layT ht11) (r := t11 + 3) rfl dX11_street_68 ?_
      refine x_iload_n hP dX11_street_71 rfl ?_
      obtain ⟨v12, hiv12, hv12, hf⟩ := b_ag hf
      refine y_ald hP (layT_3 ht11) hiv12 hv12 dX11_street_72 ?_
      cases hf
      exact x_iret hP rfl dX11_street_73
    replace hf := p_f c10 hf
    by_cases c13 : x2 = 3
    · refine x_tswE hP dX11_street_11 c13 (by decide) (by decide) (off := 63) rfl (tgt := 74) (by decide) ?_
      replace hf := p_t c13 hf
      refine x_aload_n hP dX11_street_74 rfl ?_
      refine x_getO hP fX11_73 lay0 (r := 60) rfl dX11_street_75 ?_
      refine x_iload_n hP dX11_street_78 rfl ?_
      obtain ⟨v15, hc14, hf⟩ := b_bd hf
      refine y_cvi hP oX3_isLit lX11_133 [.int x1] [] rfl rfl rfl lay60 dX11_street_79 (t_X3_isLit (d := d - 1) (by omega) isN_60 hc14) (by omega) ?_
      refine x_if_eq hP dX11_street_82 (tgt := 89) (by decide) (fun c16 => ?_) (fun c16 => ?_)
      · replace hf := p_t c16 hf
        refine x_iconst hP dX11_street_89 (v := 0) rfl ?_
        cases hf
        exact x_iret hP rfl dX11_street_90
      · replace hf := p_f c16 hf
        refine x_iconst hP dX11_street_85 (v := 1) rfl ?_
        refine x_goto hP dX11_street_86 (tgt := 90) (by decide) ?_
        cases hf
        exact x_iret hP rfl dX11_street_90
    replace hf := p_f c13 hf
    by_cases c17 : x2 = 4
    · refine x_tswE hP dX11_street_11 c17 (by decide) (by decide) (off := 80) rfl (tgt := 91) (by decide) ?_
      replace hf := p_t c17 hf
      refine x_aload_n hP dX11_street_91 rfl ?_
      refine x_getO hP fX11_73 lay0 (r := 60) rfl dX11_street_92 ?_
      refine x_iload_n hP dX11_street_95 rfl ?_
      obtain ⟨v19, hc18, hf⟩ := b_bd hf
      refine y_cvi hP oX3_needsOf lX11_136 [.int x1] [] rfl rfl rfl lay60 dX11_street_96 (t_X3_needsOf (d := d - 1) (by omega) isN_60 hc18) (by omega) ?_
      cases hf
      exact x_iret hP rfl dX11_street_99
    replace hf := p_f c17 hf
    refine x_tswD hP dX11_street_11 [0, 1, 2, 3, 4] (And.intro (neI c4) (And.intro (neI c7) (And.intro (neI c10) (And.intro (neI c13) (And.intro (neI c17) trivial))))) (by decide) (by decide) (tgt := 100) (by decide) ?_
    refine x_iconst hP dX11_street_100 (v := (-1)) rfl ?_
    cases hf
    exact x_iret hP rfl dX11_street_101
  · replace hf := p_t c3 hf
    refine x_iconst hP dX11_street_8 (v := (-1)) rfl ?_
    cases hf
    exact x_iret hP rfl dX11_street_9
def f_X11_isYoung (x1 : Int32) (M : Mem) : Option (Int32) :=
  if x1 < 0 then
    some (0 : Int32)
  else
    (rT M 0 9).bind fun t2 =>
    if M.1 t2 12 ≤ x1 then
      some (0 : Int32)
    else
      some (1 : Int32)
set_option maxHeartbeats 1000000 in
set_option maxRecDepth 20000 in
theorem t_X11_isYoung {g : GG} {d : Nat} (hd : 1 ≤ d) {x1 : Int32} {M : Mem} {r : Int32} (hf : f_X11_isYoung x1 M = some r) : ExM g d iX11_isYoung [.ref 0, .int x1] LAY M (some (.int r), LAY, M) := by
  have hd1 : 1 ≤ d := by omega
  refine ExM.main pnX11 rfl (ls := [some (.ref 0), some (.int x1)]) rfl ?_
  intro P hP
  rw [f_X11_isYoung] at hf
  refine x_iload_n hP dX11_isYoung_0 rfl ?_
  refine x_if_lt hP dX11_isYoung_1 (tgt := 19) (by decide) (fun c1 => ?_) (fun c1 => ?_)
  · replace hf := p_t c1 hf
    refine x_iconst hP dX11_isYoung_19 (v := 0) rfl ?_
    cases hf
    exact x_zret hP rfl (Or.inl rfl) dX11_isYoung_20
  · replace hf := p_f c1 hf
    refine x_iload_n hP dX11_isYoung_4 rfl ?_
    refine x_aload_n hP dX11_isYoung_5 rfl ?_
    obtain ⟨t2, ht2, hrt2, hf⟩ := b_rT hf
    refine x_getM hP fX11_77 lay0 hrt2 dX11_isYoung_6 ?_
    refine x_getI hP fX11_357 (layT ht2) dX11_isYoung_9 ?_
    refine x_icmp_ge hP dX11_isYoung_12 (tgt := 19) (by decide) (fun c3 => ?_) (fun c3 => ?_)
    · replace hf := p_t c3 hf
      refine x_iconst hP dX11_isYoung_19 (v := 0) rfl ?_
      cases hf
      exact x_zret hP rfl (Or.inl rfl) dX11_isYoung_20
    · replace hf := p_f c3 hf
      refine x_iconst hP dX11_isYoung_15 (v := 1) rfl ?_
      refine x_goto hP dX11_isYoung_16 (tgt := 20) (by decide) ?_
      cases hf
      exact x_zret hP rfl (Or.inr rfl) dX11_isYoung_20
def f_X11_young (x1 : Int32) (x2 : Int32) (M : Mem) : Option (Int32 × Mem) :=
  (f_X11_isYoung x1 M).bind fun v2 =>
  if v2 = 0 then
    some ((-1 : Int32), M)
  else
    if x2 = 0 then
      (rT M 0 9).bind fun t5 =>
      (ag M (t5 + 4) 6 x1).bind fun v6 =>
      some (v6, M)
    else
    if x2 = 1 then
      (rT M 0 9).bind fun t8 =>
      (ag M (t8 + 5) 6 x1).bind fun v9 =>
      some (v9, M)
    else
    if x2 = 2 then
      (ag M 61 6 x1).bind fun v11 =>
      some (v11, M)
    else
    if x2 = 3 then
      (ag M 62 6 x1).bind fun v13 =>
      some (v13, M)
    else
    if x2 = 4 then
      (f_X3_isHome 60 x1 M).bind fun v16 =>
      if v16 = 0 then
        some ((0 : Int32), M)
      else
        some ((1 : Int32), M)
    else
    if x2 = 5 then
      (ag M 63 6 x1).bind fun v19 =>
      some (v19, M)
    else
    if x2 = 6 then
      (f_X3_since 60 x1 M).bind fun v22 =>
      some (v22, M)
    else
    if x2 = 7 then
      some (((M.1 60 4) >>> (x1 &&& 31)) &&& (1 : Int32), M)
    else
    if x2 = 8 then
      (f_X3_isHome 60 x1 M).bind fun v26 =>
      if v26 = 0 then
        (f_X2_cools 31 60 x1 M).bind fun t29 =>
        some (t29.1, t29.2)
      else
        some ((0 : Int32), M)
    else
    if x2 = 9 then
      (f_X3_isHome 60 x1 M).bind fun v32 =>
      if v32 = 0 then
        (f_X2_leaves 31 60 x1 M).bind fun t35 =>
        if t35.1 = 0 then
          some ((0 : Int32), t35.2)
        else
          some ((1 : Int32), t35.2)
      else
        some ((0 : Int32), M)
    else
    some ((-1 : Int32), M)
set_option maxHeartbeats 1000000 in
set_option maxRecDepth 20000 in
theorem t_X11_young {g : GG} {d : Nat} (hd : 4 ≤ d) {x1 : Int32} {x2 : Int32} {M : Mem} {r : Int32} {M' : Mem} (hf : f_X11_young x1 x2 M = some (r, M')) : ExM g d iX11_young [.ref 0, .int x1, .int x2] LAY M (some (.int r), LAY, M') := by
  have hd1 : 1 ≤ d := by omega
  refine ExM.main pnX11 rfl (ls := [some (.ref 0), some (.int x1), some (.int x2)]) rfl ?_
  intro P hP
  rw [f_X11_young] at hf
  refine x_aload_n hP dX11_young_0 rfl ?_
  refine x_iload_n hP dX11_young_1 rfl ?_
  obtain ⟨v2, hc1, hf⟩ := b_bd hf
  refine y_cvi hP oX11_isYoung lX11_139 [.int x1] [] rfl rfl rfl lay0 dX11_young_2 (t_X11_isYoung (d := d - 1) (by omega) hc1) (by omega) ?_
  refine x_if_ne hP dX11_young_5 (tgt := 10) (by decide) (fun c3 => ?_) (fun c3 => ?_)
  · replace hf := p_f c3 hf
    refine x_iload_n hP dX11_young_10 rfl ?_
    by_cases c4 : x2 = 0
    · refine x_tswE hP dX11_young_11 c4 (by decide) (by decide) (off := 53) rfl (tgt := 64) (by decide) ?_
      replace hf := p_t c4 hf
      refine x_aload_n hP dX11_young_64 rfl ?_
      obtain ⟨t5, ht5, hrt5, hf⟩ := b_rT hf
      refine x_getM hP fX11_77 lay0 hrt5 dX11_young_65 ?_
      refine x_getA hP fX11_142 (layT ht5) (r := t5 + 4) rfl dX11_young_68 ?_
      refine x_iload_n hP dX11_young_71 rfl ?_
      obtain ⟨v6, hiv6, hv6, hf⟩ := b_ag hf
      refine y_ald hP (layT_4 ht5) hiv6 hv6 dX11_young_72 ?_
      cases hf
      exact x_iret hP rfl dX11_young_73
    replace hf := p_f c4 hf
    by_cases c7 : x2 = 1
    · refine x_tswE hP dX11_young_11 c7 (by decide) (by decide) (off := 63) rfl (tgt := 74) (by decide) ?_
      replace hf := p_t c7 hf
      refine x_aload_n hP dX11_young_74 rfl ?_
      obtain ⟨t8, ht8, hrt8, hf⟩ := b_rT hf
      refine x_getM hP fX11_77 lay0 hrt8 dX11_young_75 ?_
      refine x_getA hP fX11_145 (layT ht8) (r := t8 + 5) rfl dX11_young_78 ?_
      refine x_iload_n hP dX11_young_81 rfl ?_
      obtain ⟨v9, hiv9, hv9, hf⟩ := b_ag hf
      refine y_ald hP (layT_5 ht8) hiv9 hv9 dX11_young_82 ?_
      cases hf
      exact x_iret hP rfl dX11_young_83
    replace hf := p_f c7 hf
    by_cases c10 : x2 = 2
    · refine x_tswE hP dX11_young_11 c10 (by decide) (by decide) (off := 73) rfl (tgt := 84) (by decide) ?_
      replace hf := p_t c10 hf
      refine x_aload_n hP dX11_young_84 rfl ?_
      refine x_getO hP fX11_73 lay0 (r := 60) rfl dX11_young_85 ?_
      refine x_getA hP fX11_148 lay60 (r := 61) rfl dX11_young_88 ?_
      refine x_iload_n hP dX11_young_91 rfl ?_
      obtain ⟨v11, hiv11, hv11, hf⟩ := b_ag hf
      refine y_ald hP lay61 hiv11 hv11 dX11_young_92 ?_
      cases hf
      exact x_iret hP rfl dX11_young_93
    replace hf := p_f c10 hf
    by_cases c12 : x2 = 3
    · refine x_tswE hP dX11_young_11 c12 (by decide) (by decide) (off := 83) rfl (tgt := 94) (by decide) ?_
      replace hf := p_t c12 hf
      refine x_aload_n hP dX11_young_94 rfl ?_
      refine x_getO hP fX11_73 lay0 (r := 60) rfl dX11_young_95 ?_
      refine x_getA hP fX11_151 lay60 (r := 62) rfl dX11_young_98 ?_
      refine x_iload_n hP dX11_young_101 rfl ?_
      obtain ⟨v13, hiv13, hv13, hf⟩ := b_ag hf
      refine y_ald hP lay62 hiv13 hv13 dX11_young_102 ?_
      cases hf
      exact x_iret hP rfl dX11_young_103
    replace hf := p_f c12 hf
    by_cases c14 : x2 = 4
    · refine x_tswE hP dX11_young_11 c14 (by decide) (by decide) (off := 93) rfl (tgt := 104) (by decide) ?_
      replace hf := p_t c14 hf
      refine x_aload_n hP dX11_young_104 rfl ?_
      refine x_getO hP fX11_73 lay0 (r := 60) rfl dX11_young_105 ?_
      refine x_iload_n hP dX11_young_108 rfl ?_
      obtain ⟨v16, hc15, hf⟩ := b_bd hf
      refine y_cvi hP oX3_isHome lX11_154 [.int x1] [] rfl rfl rfl lay60 dX11_young_109 (t_X3_isHome (d := d - 1) (by omega) isN_60 hc15) (by omega) ?_
      refine x_if_eq hP dX11_young_112 (tgt := 119) (by decide) (fun c17 => ?_) (fun c17 => ?_)
      · replace hf := p_t c17 hf
        refine x_iconst hP dX11_young_119 (v := 0) rfl ?_
        cases hf
        exact x_iret hP rfl dX11_young_120
      · replace hf := p_f c17 hf
        refine x_iconst hP dX11_young_115 (v := 1) rfl ?_
        refine x_goto hP dX11_young_116 (tgt := 120) (by decide) ?_
        cases hf
        exact x_iret hP rfl dX11_young_120
    replace hf := p_f c14 hf
    by_cases c18 : x2 = 5
    · refine x_tswE hP dX11_young_11 c18 (by decide) (by decide) (off := 110) rfl (tgt := 121) (by decide) ?_
      replace hf := p_t c18 hf
      refine x_aload_n hP dX11_young_121 rfl ?_
      refine x_getO hP fX11_73 lay0 (r := 60) rfl dX11_young_122 ?_
      refine x_getA hP fX11_157 lay60 (r := 63) rfl dX11_young_125 ?_
      refine x_iload_n hP dX11_young_128 rfl ?_
      obtain ⟨v19, hiv19, hv19, hf⟩ := b_ag hf
      refine y_ald hP lay63 hiv19 hv19 dX11_young_129 ?_
      cases hf
      exact x_iret hP rfl dX11_young_130
    replace hf := p_f c18 hf
    by_cases c20 : x2 = 6
    · refine x_tswE hP dX11_young_11 c20 (by decide) (by decide) (off := 120) rfl (tgt := 131) (by decide) ?_
      replace hf := p_t c20 hf
      refine x_aload_n hP dX11_young_131 rfl ?_
      refine x_getO hP fX11_73 lay0 (r := 60) rfl dX11_young_132 ?_
      refine x_iload_n hP dX11_young_135 rfl ?_
      obtain ⟨v22, hc21, hf⟩ := b_bd hf
      refine y_cvi hP oX3_since lX11_160 [.int x1] [] rfl rfl rfl lay60 dX11_young_136 (t_X3_since (d := d - 1) (by omega) isN_60 hc21) (by omega) ?_
      cases hf
      exact x_iret hP rfl dX11_young_139
    replace hf := p_f c20 hf
    by_cases c23 : x2 = 7
    · refine x_tswE hP dX11_young_11 c23 (by decide) (by decide) (off := 129) rfl (tgt := 140) (by decide) ?_
      replace hf := p_t c23 hf
      refine x_aload_n hP dX11_young_140 rfl ?_
      refine x_getO hP fX11_73 lay0 (r := 60) rfl dX11_young_141 ?_
      refine x_getI hP fX11_163 lay60 dX11_young_144 ?_
      refine x_iload_n hP dX11_young_147 rfl ?_
      refine x_ishr hP dX11_young_148 ?_
      refine x_iconst hP dX11_young_149 (v := 1) rfl ?_
      refine x_iand hP dX11_young_150 ?_
      cases hf
      exact x_iret hP rfl dX11_young_151
    replace hf := p_f c23 hf
    by_cases c24 : x2 = 8
    · refine x_tswE hP dX11_young_11 c24 (by decide) (by decide) (off := 141) rfl (tgt := 152) (by decide) ?_
      replace hf := p_t c24 hf
      refine x_aload_n hP dX11_young_152 rfl ?_
      refine x_getO hP fX11_73 lay0 (r := 60) rfl dX11_young_153 ?_
      refine x_iload_n hP dX11_young_156 rfl ?_
      obtain ⟨v26, hc25, hf⟩ := b_bd hf
      refine y_cvi hP oX3_isHome lX11_154 [.int x1] [] rfl rfl rfl lay60 dX11_young_157 (t_X3_isHome (d := d - 1) (by omega) isN_60 hc25) (by omega) ?_
      refine x_if_eq hP dX11_young_160 (tgt := 167) (by decide) (fun c27 => ?_) (fun c27 => ?_)
      · replace hf := p_t c27 hf
        refine x_aload_n hP dX11_young_167 rfl ?_
        refine x_getO hP fX11_31 lay0 (r := 31) rfl dX11_young_168 ?_
        refine x_aload_n hP dX11_young_171 rfl ?_
        refine x_getO hP fX11_73 lay0 (r := 60) rfl dX11_young_172 ?_
        refine x_iload_n hP dX11_young_175 rfl ?_
        obtain ⟨t29, hc28, hf⟩ := b_bd hf
        refine y_cvi hP oX2_cools lX11_166 [.ref 60, .int x1] [] rfl rfl rfl lay31 dX11_young_176 (t_X2_cools (d := d - 1) (by omega) isL_31 isN_60 hc28) (by omega) ?_
        cases hf
        exact x_iret hP rfl dX11_young_179
      · replace hf := p_f c27 hf
        refine x_iconst hP dX11_young_163 (v := 0) rfl ?_
        refine x_goto hP dX11_young_164 (tgt := 179) (by decide) ?_
        cases hf
        exact x_iret hP rfl dX11_young_179
    replace hf := p_f c24 hf
    by_cases c30 : x2 = 9
    · refine x_tswE hP dX11_young_11 c30 (by decide) (by decide) (off := 169) rfl (tgt := 180) (by decide) ?_
      replace hf := p_t c30 hf
      refine x_aload_n hP dX11_young_180 rfl ?_
      refine x_getO hP fX11_73 lay0 (r := 60) rfl dX11_young_181 ?_
      refine x_iload_n hP dX11_young_184 rfl ?_
      obtain ⟨v32, hc31, hf⟩ := b_bd hf
      refine y_cvi hP oX3_isHome lX11_154 [.int x1] [] rfl rfl rfl lay60 dX11_young_185 (t_X3_isHome (d := d - 1) (by omega) isN_60 hc31) (by omega) ?_
      refine x_if_ne hP dX11_young_188 (tgt := 210) (by decide) (fun c33 => ?_) (fun c33 => ?_)
      · replace hf := p_f c33 hf
        refine x_iconst hP dX11_young_210 (v := 0) rfl ?_
        cases hf
        exact x_iret hP rfl dX11_young_211
      · replace hf := p_t c33 hf
        refine x_aload_n hP dX11_young_191 rfl ?_
        refine x_getO hP fX11_31 lay0 (r := 31) rfl dX11_young_192 ?_
        refine x_aload_n hP dX11_young_195 rfl ?_
        refine x_getO hP fX11_73 lay0 (r := 60) rfl dX11_young_196 ?_
        refine x_iload_n hP dX11_young_199 rfl ?_
        obtain ⟨t35, hc34, hf⟩ := b_bd hf
        refine y_cvi hP oX2_leaves lX11_170 [.ref 60, .int x1] [] rfl rfl rfl lay31 dX11_young_200 (t_X2_leaves (d := d - 1) (by omega) isL_31 isN_60 hc34) (by omega) ?_
        refine x_if_eq hP dX11_young_203 (tgt := 210) (by decide) (fun c36 => ?_) (fun c36 => ?_)
        · replace hf := p_t c36 hf
          refine x_iconst hP dX11_young_210 (v := 0) rfl ?_
          cases hf
          exact x_iret hP rfl dX11_young_211
        · replace hf := p_f c36 hf
          refine x_iconst hP dX11_young_206 (v := 1) rfl ?_
          refine x_goto hP dX11_young_207 (tgt := 211) (by decide) ?_
          cases hf
          exact x_iret hP rfl dX11_young_211
    replace hf := p_f c30 hf
    refine x_tswD hP dX11_young_11 [0, 1, 2, 3, 4, 5, 6, 7, 8, 9] (And.intro (neI c4) (And.intro (neI c7) (And.intro (neI c10) (And.intro (neI c12) (And.intro (neI c14) (And.intro (neI c18) (And.intro (neI c20) (And.intro (neI c23) (And.intro (neI c24) (And.intro (neI c30) trivial)))))))))) (by decide) (by decide) (tgt := 212) (by decide) ?_
    refine x_iconst hP dX11_young_212 (v := (-1)) rfl ?_
    cases hf
    exact x_iret hP rfl dX11_young_213
  · replace hf := p_t c3 hf
    refine x_iconst hP dX11_young_8 (v := (-1)) rfl ?_
    cases hf
    exact x_iret hP rfl dX11_young_9
def f_X11_isWord (x1 : Int32) (M : Mem) : Option (Int32) :=
  if x1 < 0 then
    some (0 : Int32)
  else
    (rT M 0 9).bind fun t2 =>
    if M.1 t2 13 ≤ x1 then
      some (0 : Int32)
    else
      some (1 : Int32)
set_option maxHeartbeats 1000000 in
set_option maxRecDepth 20000 in
theorem t_X11_isWord {g : GG} {d : Nat} (hd : 1 ≤ d) {x1 : Int32} {M : Mem} {r : Int32} (hf : f_X11_isWord x1 M = some r) : ExM g d iX11_isWord [.ref 0, .int x1] LAY M (some (.int r), LAY, M) := by
  have hd1 : 1 ≤ d := by omega
  refine ExM.main pnX11 rfl (ls := [some (.ref 0), some (.int x1)]) rfl ?_
  intro P hP
  rw [f_X11_isWord] at hf
  refine x_iload_n hP dX11_isWord_0 rfl ?_
  refine x_if_lt hP dX11_isWord_1 (tgt := 19) (by decide) (fun c1 => ?_) (fun c1 => ?_)
  · replace hf := p_t c1 hf
    refine x_iconst hP dX11_isWord_19 (v := 0) rfl ?_
    cases hf
    exact x_zret hP rfl (Or.inl rfl) dX11_isWord_20
  · replace hf := p_f c1 hf
    refine x_iload_n hP dX11_isWord_4 rfl ?_
    refine x_aload_n hP dX11_isWord_5 rfl ?_
    obtain ⟨t2, ht2, hrt2, hf⟩ := b_rT hf
    refine x_getM hP fX11_77 lay0 hrt2 dX11_isWord_6 ?_
    refine x_getI hP fX11_251 (layT ht2) dX11_isWord_9 ?_
    refine x_icmp_ge hP dX11_isWord_12 (tgt := 19) (by decide) (fun c3 => ?_) (fun c3 => ?_)
    · replace hf := p_t c3 hf
      refine x_iconst hP dX11_isWord_19 (v := 0) rfl ?_
      cases hf
      exact x_zret hP rfl (Or.inl rfl) dX11_isWord_20
    · replace hf := p_f c3 hf
      refine x_iconst hP dX11_isWord_15 (v := 1) rfl ?_
      refine x_goto hP dX11_isWord_16 (tgt := 20) (by decide) ?_
      cases hf
      exact x_zret hP rfl (Or.inr rfl) dX11_isWord_20
def f_X11_word (x1 : Int32) (x2 : Int32) (M : Mem) : Option (Int32) :=
  (f_X11_isWord x1 M).bind fun v2 =>
  if v2 = 0 then
    some (-1 : Int32)
  else
    if x2 = 0 then
      (ag M 65 5 x1).bind fun v5 =>
      some v5
    else
    if x2 = 1 then
      (ag M 66 5 x1).bind fun v7 =>
      some v7
    else
    some (-1 : Int32)
set_option maxHeartbeats 1000000 in
set_option maxRecDepth 20000 in
theorem t_X11_word {g : GG} {d : Nat} (hd : 2 ≤ d) {x1 : Int32} {x2 : Int32} {M : Mem} {r : Int32} (hf : f_X11_word x1 x2 M = some r) : ExM g d iX11_word [.ref 0, .int x1, .int x2] LAY M (some (.int r), LAY, M) := by
  have hd1 : 1 ≤ d := by omega
  refine ExM.main pnX11 rfl (ls := [some (.ref 0), some (.int x1), some (.int x2)]) rfl ?_
  intro P hP
  rw [f_X11_word] at hf
  refine x_aload_n hP dX11_word_0 rfl ?_
  refine x_iload_n hP dX11_word_1 rfl ?_
  obtain ⟨v2, hc1, hf⟩ := b_bd hf
  refine y_cvi hP oX11_isWord lX11_174 [.int x1] [] rfl rfl rfl lay0 dX11_word_2 (t_X11_isWord (d := d - 1) (by omega) hc1) (by omega) ?_
  refine x_if_ne hP dX11_word_5 (tgt := 10) (by decide) (fun c3 => ?_) (fun c3 => ?_)
  · replace hf := p_f c3 hf
    refine x_iload_n hP dX11_word_10 rfl ?_
    by_cases c4 : x2 = 0
    · refine x_lkE hP dX11_word_11 c4 (by decide) (off := 25) rfl (tgt := 36) (by decide) ?_
      replace hf := p_t c4 hf
      refine x_aload_n hP dX11_word_36 rfl ?_
      refine x_getO hP fX11_73 lay0 (r := 60) rfl dX11_word_37 ?_
      refine x_getA hP fX11_177 lay60 (r := 65) rfl dX11_word_40 ?_
      refine x_iload_n hP dX11_word_43 rfl ?_
      obtain ⟨v5, hiv5, hv5, hf⟩ := b_ag hf
      refine y_ald hP lay65 hiv5 hv5 dX11_word_44 ?_
      cases hf
      exact x_iret hP rfl dX11_word_45
    replace hf := p_f c4 hf
    by_cases c6 : x2 = 1
    · refine x_lkE hP dX11_word_11 c6 (by decide) (off := 35) rfl (tgt := 46) (by decide) ?_
      replace hf := p_t c6 hf
      refine x_aload_n hP dX11_word_46 rfl ?_
      refine x_getO hP fX11_73 lay0 (r := 60) rfl dX11_word_47 ?_
      refine x_getA hP fX11_180 lay60 (r := 66) rfl dX11_word_50 ?_
      refine x_iload_n hP dX11_word_53 rfl ?_
      obtain ⟨v7, hiv7, hv7, hf⟩ := b_ag hf
      refine y_ald hP lay66 hiv7 hv7 dX11_word_54 ?_
      cases hf
      exact x_iret hP rfl dX11_word_55
    replace hf := p_f c6 hf
    refine x_lkD hP dX11_word_11 [0, 1] (And.intro (neI c4) (And.intro (neI c6) trivial)) (by decide) (by decide) (tgt := 56) (by decide) ?_
    refine x_iconst hP dX11_word_56 (v := (-1)) rfl ?_
    cases hf
    exact x_iret hP rfl dX11_word_57
  · replace hf := p_t c3 hf
    refine x_iconst hP dX11_word_8 (v := (-1)) rfl ?_
    cases hf
    exact x_iret hP rfl dX11_word_9
def f_X11_tells (x1 : Int32) (x2 : Int32) (x3 : Int32) (M : Mem) : Option (Int32 × Mem) :=
  (f_X11_isYoung x1 M).bind fun v2 =>
  if v2 = 0 then
    some ((-1 : Int32), M)
  else
    (f_X11_isWord x2 M).bind fun v5 =>
    if v5 = 0 then
      some ((-1 : Int32), M)
    else
      if x3 = 0 then
        (f_X2_glows 31 60 x1 x2 M).bind fun t9 =>
        some (t9.1, t9.2)
      else
      if x3 = 1 then
        (f_X2_wears 31 60 x1 x2 M).bind fun t12 =>
        some (t12.1, t12.2)
      else
      some ((-1 : Int32), M)
set_option maxHeartbeats 1000000 in
set_option maxRecDepth 20000 in
theorem t_X11_tells {g : GG} {d : Nat} (hd : 4 ≤ d) {x1 : Int32} {x2 : Int32} {x3 : Int32} {M : Mem} {r : Int32} {M' : Mem} (hf : f_X11_tells x1 x2 x3 M = some (r, M')) : ExM g d iX11_tells [.ref 0, .int x1, .int x2, .int x3] LAY M (some (.int r), LAY, M') := by
  have hd1 : 1 ≤ d := by omega
  refine ExM.main pnX11 rfl (ls := [some (.ref 0), some (.int x1), some (.int x2), some (.int x3)]) rfl ?_
  intro P hP
  rw [f_X11_tells] at hf
  refine x_aload_n hP dX11_tells_0 rfl ?_
  refine x_iload_n hP dX11_tells_1 rfl ?_
  obtain ⟨v2, hc1, hf⟩ := b_bd hf
  refine y_cvi hP oX11_isYoung lX11_139 [.int x1] [] rfl rfl rfl lay0 dX11_tells_2 (t_X11_isYoung (d := d - 1) (by omega) hc1) (by omega) ?_
  refine x_if_eq hP dX11_tells_5 (tgt := 16) (by decide) (fun c3 => ?_) (fun c3 => ?_)
  · replace hf := p_t c3 hf
    refine x_iconst hP dX11_tells_16 (v := (-1)) rfl ?_
    cases hf
    exact x_iret hP rfl dX11_tells_17
  · replace hf := p_f c3 hf
    refine x_aload_n hP dX11_tells_8 rfl ?_
    refine x_iload_n hP dX11_tells_9 rfl ?_
    obtain ⟨v5, hc4, hf⟩ := b_bd hf
    refine y_cvi hP oX11_isWord lX11_174 [.int x2] [] rfl rfl rfl lay0 dX11_tells_10 (t_X11_isWord (d := d - 1) (by omega) hc4) (by omega) ?_
    refine x_if_ne hP dX11_tells_13 (tgt := 18) (by decide) (fun c6 => ?_) (fun c6 => ?_)
    · replace hf := p_f c6 hf
      refine x_iload_n hP dX11_tells_18 rfl ?_
      by_cases c7 : x3 = 0
      · refine x_lkE hP dX11_tells_19 c7 (by decide) (off := 25) rfl (tgt := 44) (by decide) ?_
        replace hf := p_t c7 hf
        refine x_aload_n hP dX11_tells_44 rfl ?_
        refine x_getO hP fX11_31 lay0 (r := 31) rfl dX11_tells_45 ?_
        refine x_aload_n hP dX11_tells_48 rfl ?_
        refine x_getO hP fX11_73 lay0 (r := 60) rfl dX11_tells_49 ?_
        refine x_iload_n hP dX11_tells_52 rfl ?_
        refine x_iload_n hP dX11_tells_53 rfl ?_
        obtain ⟨t9, hc8, hf⟩ := b_bd hf
        refine y_cvi hP oX2_glows lX11_183 [.ref 60, .int x1, .int x2] [] rfl rfl rfl lay31 dX11_tells_54 (t_X2_glows (d := d - 1) (by omega) isL_31 isN_60 hc8) (by omega) ?_
        cases hf
        exact x_iret hP rfl dX11_tells_57
      replace hf := p_f c7 hf
      by_cases c10 : x3 = 1
      · refine x_lkE hP dX11_tells_19 c10 (by decide) (off := 39) rfl (tgt := 58) (by decide) ?_
        replace hf := p_t c10 hf
        refine x_aload_n hP dX11_tells_58 rfl ?_
        refine x_getO hP fX11_31 lay0 (r := 31) rfl dX11_tells_59 ?_
        refine x_aload_n hP dX11_tells_62 rfl ?_
        refine x_getO hP fX11_73 lay0 (r := 60) rfl dX11_tells_63 ?_
        refine x_iload_n hP dX11_tells_66 rfl ?_
        refine x_iload_n hP dX11_tells_67 rfl ?_
        obtain ⟨t12, hc11, hf⟩ := b_bd hf
        refine y_cvi hP oX2_wears lX11_187 [.ref 60, .int x1, .int x2] [] rfl rfl rfl lay31 dX11_tells_68 (t_X2_wears (d := d - 1) (by omega) isL_31 isN_60 hc11) (by omega) ?_
        cases hf
        exact x_iret hP rfl dX11_tells_71
      replace hf := p_f c10 hf
      refine x_lkD hP dX11_tells_19 [0, 1] (And.intro (neI c7) (And.intro (neI c10) trivial)) (by decide) (by decide) (tgt := 72) (by decide) ?_
      refine x_iconst hP dX11_tells_72 (v := (-1)) rfl ?_
      cases hf
      exact x_iret hP rfl dX11_tells_73
    · replace hf := p_t c6 hf
      refine x_iconst hP dX11_tells_16 (v := (-1)) rfl ?_
      cases hf
      exact x_iret hP rfl dX11_tells_17
def f_X11_beginThing (M : Mem) : Option (Mem) :=
  (f_X4_note 60 M).bind fun M2 =>
  lt (sI M2 48 2 (1 : Int32)) fun M3 =>
  some M3
set_option maxHeartbeats 1000000 in
set_option maxRecDepth 20000 in
theorem t_X11_beginThing {g : GG} {d : Nat} (hd : 4 ≤ d) {M : Mem} {M' : Mem} (hf : f_X11_beginThing M = some M') : ExM g d iX11_beginThing [.ref 0] LAY M (none, LAY, M') := by
  have hd1 : 1 ≤ d := by omega
  refine ExM.main pnX11 rfl (ls := [some (.ref 0)]) rfl ?_
  intro P hP
  rw [f_X11_beginThing] at hf
  refine x_aload_n hP dX11_beginThing_0 rfl ?_
  refine x_getO hP fX11_66 lay0 (r := 57) rfl dX11_beginThing_1 ?_
  refine x_aload_n hP dX11_beginThing_4 rfl ?_
  refine x_getO hP fX11_73 lay0 (r := 60) rfl dX11_beginThing_5 ?_
  obtain ⟨M2, hc1, hf⟩ := b_bd hf
  refine y_cvv hP oX4_note lX11_375 [.ref 60] [] rfl rfl rfl lay57 dX11_beginThing_8 (t_X4_note (d := d - 1) (by omega) isN_60 hc1) (by omega) ?_
  refine x_aload_n hP dX11_beginThing_11 rfl ?_
  refine x_getO hP fX11_52 lay0 (r := 48) rfl dX11_beginThing_12 ?_
  refine x_iconst hP dX11_beginThing_15 (v := 1) rfl ?_
  obtain ⟨M3, hM3, hf⟩ := b_lt hf
  refine y_putZ hP fX11_227 (Or.inr rfl) lay48 hM3 dX11_beginThing_16 ?_
  cases hf
  exact x_vret hP rfl dX11_beginThing_19
def f_X11_step (x1 : Int32) (M : Mem) : Option (Int32 × Mem) :=
  (f_X11_isStreet x1 M).bind fun v2 =>
  if v2 = 0 then
    some ((-1 : Int32), M)
  else
    (rT M 0 9).bind fun t4 =>
    (f_X9_acrossFrom t4 (M.1 60 2) x1 M).bind fun v6 =>
    if v6 = (-1 : Int32) then
      some ((-1 : Int32), M)
    else
      (f_X11_beginThing M).bind fun M9 =>
      lt (sI M9 60 2 v6) fun M10 =>
      (rT M10 0 9).bind fun t11 =>
      (f_X0_passHours 60 (1 : Int32) (M10.1 t11 16) (1 : Int32) M10).bind fun M13 =>
      some (v6, M13)
set_option maxHeartbeats 1000000 in
set_option maxRecDepth 20000 in
theorem t_X11_step {g : GG} {d : Nat} (hd : 6 ≤ d) {x1 : Int32} {M : Mem} {r : Int32} {M' : Mem} (hf : f_X11_step x1 M = some (r, M')) : ExM g d iX11_step [.ref 0, .int x1] LAY M (some (.int r), LAY, M') := by
  have hd1 : 1 ≤ d := by omega
  refine ExM.main pnX11 rfl (ls := [some (.ref 0), some (.int x1), none]) rfl ?_
  intro P hP
  rw [f_X11_step] at hf
  refine x_aload_n hP dX11_step_0 rfl ?_
  refine x_iload_n hP dX11_step_1 rfl ?_
  obtain ⟨v2, hc1, hf⟩ := b_bd hf
  refine y_cvi hP oX11_isStreet lX11_120 [.int x1] [] rfl rfl rfl lay0 dX11_step_2 (t_X11_isStreet (d := d - 1) (by omega) hc1) (by omega) ?_
  refine x_if_ne hP dX11_step_5 (tgt := 10) (by decide) (fun c3 => ?_) (fun c3 => ?_)
  · replace hf := p_f c3 hf
    refine x_aload_n hP dX11_step_10 rfl ?_
    obtain ⟨t4, ht4, hrt4, hf⟩ := b_rT hf
    refine x_getM hP fX11_77 lay0 hrt4 dX11_step_11 ?_
    refine x_aload_n hP dX11_step_14 rfl ?_
    refine x_getO hP fX11_73 lay0 (r := 60) rfl dX11_step_15 ?_
    refine x_getI hP fX11_114 lay60 dX11_step_18 ?_
    refine x_iload_n hP dX11_step_21 rfl ?_
    obtain ⟨v6, hc5, hf⟩ := b_bd hf
    refine y_cvi hP oX9_acrossFrom lX11_190 [.int (M.1 60 2), .int x1] [] rfl rfl rfl (layT ht4) dX11_step_22 (t_X9_acrossFrom (d := d - 1) (by omega) ht4 hc5) (by omega) ?_
    refine x_istore_n hP (ls2 := [some (.ref 0), some (.int x1), some (.int v6)]) dX11_step_25 rfl rfl rfl ?_
    refine x_iload_n hP dX11_step_26 rfl ?_
    refine x_iconst hP dX11_step_27 (v := (-1)) rfl ?_
    refine x_icmp_ne hP dX11_step_28 (tgt := 33) (by decide) (fun c7 => ?_) (fun c7 => ?_)
    · replace hf := p_f c7 hf
      refine x_aload_n hP dX11_step_33 rfl ?_
      obtain ⟨M9, hc8, hf⟩ := b_bd hf
      refine y_cvv hP oX11_beginThing lX11_194 [] [] rfl rfl rfl lay0 dX11_step_34 (t_X11_beginThing (d := d - 1) (by omega) hc8) (by omega) ?_
      refine x_aload_n hP dX11_step_37 rfl ?_
      refine x_getO hP fX11_73 lay0 (r := 60) rfl dX11_step_38 ?_
      refine x_iload_n hP dX11_step_41 rfl ?_
      obtain ⟨M10, hM10, hf⟩ := b_lt hf
      refine y_putI hP fX11_114 lay60 hM10 dX11_step_42 ?_
      refine x_aload_n hP dX11_step_45 rfl ?_
      refine x_getO hP fX11_38 lay0 (r := 34) rfl dX11_step_46 ?_
      refine x_aload_n hP dX11_step_49 rfl ?_
      refine x_getO hP fX11_73 lay0 (r := 60) rfl dX11_step_50 ?_
      refine x_iconst hP dX11_step_53 (v := 1) rfl ?_
      refine x_aload_n hP dX11_step_54 rfl ?_
      obtain ⟨t11, ht11, hrt11, hf⟩ := b_rT hf
      refine x_getM hP fX11_77 lay0 hrt11 dX11_step_55 ?_
      refine x_getI hP fX11_197 (layT ht11) dX11_step_58 ?_
      refine x_iconst hP dX11_step_61 (v := 1) rfl ?_
      obtain ⟨M13, hc12, hf⟩ := b_bd hf
      refine y_cvv hP oX0_passHours lX11_200 [.ref 60, .int (1 : Int32), .int (M10.1 t11 16), .int (1 : Int32)] [] rfl rfl rfl lay34 dX11_step_62 (t_X0_passHours (d := d - 1) (by omega) isN_60 hc12) (by omega) ?_
      refine x_iload_n hP dX11_step_65 rfl ?_
      cases hf
      exact x_iret hP rfl dX11_step_66
    · replace hf := p_t c7 hf
      refine x_iconst hP dX11_step_31 (v := (-1)) rfl ?_
      cases hf
      exact x_iret hP rfl dX11_step_32
  · replace hf := p_t c3 hf
    refine x_iconst hP dX11_step_8 (v := (-1)) rfl ?_
    cases hf
    exact x_iret hP rfl dX11_step_9
def f_X11_isOut (x1 : Int32) (M : Mem) : Option (Int32) :=
  (f_X11_isYoung x1 M).bind fun v2 =>
  if v2 = 0 then
    some (0 : Int32)
  else
    (f_X3_isHome 60 x1 M).bind fun v5 =>
    if v5 = 0 then
      some (1 : Int32)
    else
      some (0 : Int32)
set_option maxHeartbeats 1000000 in
set_option maxRecDepth 20000 in
theorem t_X11_isOut {g : GG} {d : Nat} (hd : 2 ≤ d) {x1 : Int32} {M : Mem} {r : Int32} (hf : f_X11_isOut x1 M = some r) : ExM g d iX11_isOut [.ref 0, .int x1] LAY M (some (.int r), LAY, M) := by
  have hd1 : 1 ≤ d := by omega
  refine ExM.main pnX11 rfl (ls := [some (.ref 0), some (.int x1)]) rfl ?_
  intro P hP
  rw [f_X11_isOut] at hf
  refine x_aload_n hP dX11_isOut_0 rfl ?_
  refine x_iload_n hP dX11_isOut_1 rfl ?_
  obtain ⟨v2, hc1, hf⟩ := b_bd hf
  refine y_cvi hP oX11_isYoung lX11_139 [.int x1] [] rfl rfl rfl lay0 dX11_isOut_2 (t_X11_isYoung (d := d - 1) (by omega) hc1) (by omega) ?_
  refine x_if_eq hP dX11_isOut_5 (tgt := 23) (by decide) (fun c3 => ?_) (fun c3 => ?_)
  · replace hf := p_t c3 hf
    refine x_iconst hP dX11_isOut_23 (v := 0) rfl ?_
    cases hf
    exact x_zret hP rfl (Or.inl rfl) dX11_isOut_24
  · replace hf := p_f c3 hf
    refine x_aload_n hP dX11_isOut_8 rfl ?_
    refine x_getO hP fX11_73 lay0 (r := 60) rfl dX11_isOut_9 ?_
    refine x_iload_n hP dX11_isOut_12 rfl ?_
    obtain ⟨v5, hc4, hf⟩ := b_bd hf
    refine y_cvi hP oX3_isHome lX11_154 [.int x1] [] rfl rfl rfl lay60 dX11_isOut_13 (t_X3_isHome (d := d - 1) (by omega) isN_60 hc4) (by omega) ?_
    refine x_if_ne hP dX11_isOut_16 (tgt := 23) (by decide) (fun c6 => ?_) (fun c6 => ?_)
    · replace hf := p_f c6 hf
      refine x_iconst hP dX11_isOut_23 (v := 0) rfl ?_
      cases hf
      exact x_zret hP rfl (Or.inl rfl) dX11_isOut_24
    · replace hf := p_t c6 hf
      refine x_iconst hP dX11_isOut_19 (v := 1) rfl ?_
      refine x_goto hP dX11_isOut_20 (tgt := 24) (by decide) ?_
      cases hf
      exact x_zret hP rfl (Or.inr rfl) dX11_isOut_24
def f_X11_say (x1 : Int32) (x2 : Int32) (M : Mem) : Option (Int32 × Mem) :=
  (f_X11_isOut x1 M).bind fun v2 =>
  if v2 = 0 then
    some ((-1 : Int32), M)
  else
    (f_X11_isWord x2 M).bind fun v5 =>
    if v5 = 0 then
      some ((-1 : Int32), M)
    else
      (ag M 61 6 x1).bind fun v7 =>
      if v7 = M.1 60 2 then
        (f_X11_beginThing M).bind fun M10 =>
        (f_X2_wears 31 60 x1 x2 M10).bind fun t12 =>
        (f_X2_glowIfTold 31 60 x1 x2 t12.2).bind fun t14 =>
        (pg t14.2 62 6 x1 t14.1).bind fun M15 =>
        (ag M15 65 5 x2).bind fun v16 =>
        lt (if (0 : Int32) < v16 - t12.1 then v16 - t12.1 else (0 : Int32) : Int32) fun v17 =>
        (pg M15 65 5 x2 v17).bind fun M18 =>
        (ag M18 66 5 x2).bind fun v19 =>
        (pg M18 66 5 x2 (v19 + (1 : Int32))).bind fun M20 =>
        (ag M20 63 6 x1).bind fun v21 =>
        (pg M20 63 6 x1 (v21 + (1 : Int32))).bind fun M22 =>
        (pg M22 64 6 x1 (M22.1 60 1)).bind fun M23 =>
        (ag M23 62 6 x1).bind fun v24 =>
        some (v24, M23)
      else
        some ((-1 : Int32), M)
set_option maxHeartbeats 1000000 in
set_option maxRecDepth 20000 in
theorem t_X11_say {g : GG} {d : Nat} (hd : 5 ≤ d) {x1 : Int32} {x2 : Int32} {M : Mem} {r : Int32} {M' : Mem} (hf : f_X11_say x1 x2 M = some (r, M')) : ExM g d iX11_say [.ref 0, .int x1, .int x2] LAY M (some (.int r), LAY, M') := by
  have hd1 : 1 ≤ d := by omega
  refine ExM.main pnX11 rfl (ls := [some (.ref 0), some (.int x1), some (.int x2), none]) rfl ?_
  intro P hP
  rw [f_X11_say] at hf
  refine x_aload_n hP dX11_say_0 rfl ?_
  refine x_iload_n hP dX11_say_1 rfl ?_
  obtain ⟨v2, hc1, hf⟩ := b_bd hf
  refine y_cvi hP oX11_isOut lX11_204 [.int x1] [] rfl rfl rfl lay0 dX11_say_2 (t_X11_isOut (d := d - 1) (by omega) hc1) (by omega) ?_
  refine x_if_eq hP dX11_say_5 (tgt := 35) (by decide) (fun c3 => ?_) (fun c3 => ?_)
  · replace hf := p_t c3 hf
    refine x_iconst hP dX11_say_35 (v := (-1)) rfl ?_
    cases hf
    exact x_iret hP rfl dX11_say_36
  · replace hf := p_f c3 hf
    refine x_aload_n hP dX11_say_8 rfl ?_
    refine x_iload_n hP dX11_say_9 rfl ?_
    obtain ⟨v5, hc4, hf⟩ := b_bd hf
    refine y_cvi hP oX11_isWord lX11_174 [.int x2] [] rfl rfl rfl lay0 dX11_say_10 (t_X11_isWord (d := d - 1) (by omega) hc4) (by omega) ?_
    refine x_if_eq hP dX11_say_13 (tgt := 35) (by decide) (fun c6 => ?_) (fun c6 => ?_)
    · replace hf := p_t c6 hf
      refine x_iconst hP dX11_say_35 (v := (-1)) rfl ?_
      cases hf
      exact x_iret hP rfl dX11_say_36
    · replace hf := p_f c6 hf
      refine x_aload_n hP dX11_say_16 rfl ?_
      refine x_getO hP fX11_73 lay0 (r := 60) rfl dX11_say_17 ?_
      refine x_getA hP fX11_148 lay60 (r := 61) rfl dX11_say_20 ?_
      refine x_iload_n hP dX11_say_23 rfl ?_
      obtain ⟨v7, hiv7, hv7, hf⟩ := b_ag hf
      refine y_ald hP lay61 hiv7 hv7 dX11_say_24 ?_
      refine x_aload_n hP dX11_say_25 rfl ?_
      refine x_getO hP fX11_73 lay0 (r := 60) rfl dX11_say_26 ?_
      refine x_getI hP fX11_114 lay60 dX11_say_29 ?_
      refine x_icmp_eq hP dX11_say_32 (tgt := 37) (by decide) (fun c8 => ?_) (fun c8 => ?_)
      · replace hf := p_t c8 hf
        refine x_aload_n hP dX11_say_37 rfl ?_
        obtain ⟨M10, hc9, hf⟩ := b_bd hf
        refine y_cvv hP oX11_beginThing lX11_194 [] [] rfl rfl rfl lay0 dX11_say_38 (t_X11_beginThing (d := d - 1) (by omega) hc9) (by omega) ?_
        refine x_aload_n hP dX11_say_41 rfl ?_
        refine x_getO hP fX11_31 lay0 (r := 31) rfl dX11_say_42 ?_
        refine x_aload_n hP dX11_say_45 rfl ?_
        refine x_getO hP fX11_73 lay0 (r := 60) rfl dX11_say_46 ?_
        refine x_iload_n hP dX11_say_49 rfl ?_
        refine x_iload_n hP dX11_say_50 rfl ?_
        obtain ⟨t12, hc11, hf⟩ := b_bd hf
        refine y_cvi hP oX2_wears lX11_187 [.ref 60, .int x1, .int x2] [] rfl rfl rfl lay31 dX11_say_51 (t_X2_wears (d := d - 1) (by omega) isL_31 isN_60 hc11) (by omega) ?_
        refine x_istore_n hP (ls2 := [some (.ref 0), some (.int x1), some (.int x2), some (.int t12.1)]) dX11_say_54 rfl rfl rfl ?_
        refine x_aload_n hP dX11_say_55 rfl ?_
        refine x_getO hP fX11_73 lay0 (r := 60) rfl dX11_say_56 ?_
        refine x_getA hP fX11_151 lay60 (r := 62) rfl dX11_say_59 ?_
        refine x_iload_n hP dX11_say_62 rfl ?_
        refine x_aload_n hP dX11_say_63 rfl ?_
        refine x_getO hP fX11_31 lay0 (r := 31) rfl dX11_say_64 ?_
        refine x_aload_n hP dX11_say_67 rfl ?_
        refine x_getO hP fX11_73 lay0 (r := 60) rfl dX11_say_68 ?_
        refine x_iload_n hP dX11_say_71 rfl ?_
        refine x_iload_n hP dX11_say_72 rfl ?_
        obtain ⟨t14, hc13, hf⟩ := b_bd hf
        refine y_cvi hP oX2_glowIfTold lX11_207 [.ref 60, .int x1, .int x2] [.int x1, .ref 62] rfl rfl rfl lay31 dX11_say_73 (t_X2_glowIfTold (d := d - 1) (by omega) isL_31 isN_60 hc13) (by omega) ?_
        obtain ⟨M15, hiM15, hM15, hf⟩ := b_pg hf
        refine y_ast hP lay62 hiM15 hM15 dX11_say_76 ?_
        refine x_aload_n hP dX11_say_77 rfl ?_
        refine x_getO hP fX11_73 lay0 (r := 60) rfl dX11_say_78 ?_
        refine x_getA hP fX11_177 lay60 (r := 65) rfl dX11_say_81 ?_
        refine x_iload_n hP dX11_say_84 rfl ?_
        refine x_iconst hP dX11_say_85 (v := 0) rfl ?_
        refine x_aload_n hP dX11_say_86 rfl ?_
        refine x_getO hP fX11_73 lay0 (r := 60) rfl dX11_say_87 ?_
        refine x_getA hP fX11_177 lay60 (r := 65) rfl dX11_say_90 ?_
        refine x_iload_n hP dX11_say_93 rfl ?_
        obtain ⟨v16, hiv16, hv16, hf⟩ := b_ag hf
        refine y_ald hP lay65 hiv16 hv16 dX11_say_94 ?_
        refine x_iload_n hP dX11_say_95 rfl ?_
        refine x_isub hP dX11_say_96 ?_
        refine y_max hP lX11_210 rfl hd1 dX11_say_97 ?_
        obtain ⟨v17, hv17, hf⟩ := b_lt hf
        refine y_nmI hv17 ?_
        obtain ⟨M18, hiM18, hM18, hf⟩ := b_pg hf
        refine y_ast hP lay65 hiM18 hM18 dX11_say_100 ?_
        refine x_aload_n hP dX11_say_101 rfl ?_
        refine x_getO hP fX11_73 lay0 (r := 60) rfl dX11_say_102 ?_
        refine x_getA hP fX11_180 lay60 (r := 66) rfl dX11_say_105 ?_
        refine x_iload_n hP dX11_say_108 rfl ?_
        refine x_dup2 hP dX11_say_109 rfl rfl ?_
        obtain ⟨v19, hiv19, hv19, hf⟩ := b_ag hf
        refine y_ald hP lay66 hiv19 hv19 dX11_say_110 ?_
        refine x_iconst hP dX11_say_111 (v := 1) rfl ?_
        refine x_iadd hP dX11_say_112 ?_
        obtain ⟨M20, hiM20, hM20, hf⟩ := b_pg hf
        refine y_ast hP lay66 hiM20 hM20 dX11_say_113 ?_
        refine x_aload_n hP dX11_say_114 rfl ?_
        refine x_getO hP fX11_73 lay0 (r := 60) rfl dX11_say_115 ?_
        refine x_getA hP fX11_157 lay60 (r := 63) rfl dX11_say_118 ?_
        refine x_iload_n hP dX11_say_121 rfl ?_
        refine x_dup2 hP dX11_say_122 rfl rfl ?_
        obtain ⟨v21, hiv21, hv21, hf⟩ := b_ag hf
        refine y_ald hP lay63 hiv21 hv21 dX11_say_123 ?_
        refine x_iconst hP dX11_say_124 (v := 1) rfl ?_
        refine x_iadd hP dX11_say_125 ?_
        obtain ⟨M22, hiM22, hM22, hf⟩ := b_pg hf
        refine y_ast hP lay63 hiM22 hM22 dX11_say_126 ?_
        refine x_aload_n hP dX11_say_127 rfl ?_
        refine x_getO hP fX11_73 lay0 (r := 60) rfl dX11_say_128 ?_
        refine x_getA hP fX11_215 lay60 (r := 64) rfl dX11_say_131 ?_
        refine x_iload_n hP dX11_say_134 rfl ?_
        refine x_aload_n hP dX11_say_135 rfl ?_
        refine x_getO hP fX11_73 lay0 (r := 60) rfl dX11_say_136 ?_
        refine x_getI hP fX11_218 lay60 dX11_say_139 ?_
        obtain ⟨M23, hiM23, hM23, hf⟩ := b_pg hf
        refine y_ast hP lay64 hiM23 hM23 dX11_say_142 ?_
        refine x_aload_n hP dX11_say_143 rfl ?_
        refine x_getO hP fX11_73 lay0 (r := 60) rfl dX11_say_144 ?_
        refine x_getA hP fX11_151 lay60 (r := 62) rfl dX11_say_147 ?_
        refine x_iload_n hP dX11_say_150 rfl ?_
        obtain ⟨v24, hiv24, hv24, hf⟩ := b_ag hf
        refine y_ald hP lay62 hiv24 hv24 dX11_say_151 ?_
        cases hf
        exact x_iret hP rfl dX11_say_152
      · replace hf := p_f c8 hf
        refine x_iconst hP dX11_say_35 (v := (-1)) rfl ?_
        cases hf
        exact x_iret hP rfl dX11_say_36
def f_X11_move (x1 : Int32) (x2 : Int32) (M : Mem) : Option (Int32 × Mem) :=
  (f_X11_isOut x1 M).bind fun v2 =>
  if v2 = 0 then
    some ((0 : Int32), M)
  else
    (f_X11_isCorner x2 M).bind fun v5 =>
    if v5 = 0 then
      some ((0 : Int32), M)
    else
      (ag M 61 6 x1).bind fun v7 =>
      if v7 = x2 then
        some ((0 : Int32), M)
      else
        (f_X11_beginThing M).bind fun M10 =>
        (pg M10 61 6 x1 x2).bind fun M11 =>
        some ((1 : Int32), M11)
set_option maxHeartbeats 1000000 in
set_option maxRecDepth 20000 in
theorem t_X11_move {g : GG} {d : Nat} (hd : 5 ≤ d) {x1 : Int32} {x2 : Int32} {M : Mem} {r : Int32} {M' : Mem} (hf : f_X11_move x1 x2 M = some (r, M')) : ExM g d iX11_move [.ref 0, .int x1, .int x2] LAY M (some (.int r), LAY, M') := by
  have hd1 : 1 ≤ d := by omega
  refine ExM.main pnX11 rfl (ls := [some (.ref 0), some (.int x1), some (.int x2)]) rfl ?_
  intro P hP
  rw [f_X11_move] at hf
  refine x_aload_n hP dX11_move_0 rfl ?_
  refine x_iload_n hP dX11_move_1 rfl ?_
  obtain ⟨v2, hc1, hf⟩ := b_bd hf
  refine y_cvi hP oX11_isOut lX11_204 [.int x1] [] rfl rfl rfl lay0 dX11_move_2 (t_X11_isOut (d := d - 1) (by omega) hc1) (by omega) ?_
  refine x_if_eq hP dX11_move_5 (tgt := 29) (by decide) (fun c3 => ?_) (fun c3 => ?_)
  · replace hf := p_t c3 hf
    refine x_iconst hP dX11_move_29 (v := 0) rfl ?_
    cases hf
    exact x_zret hP rfl (Or.inl rfl) dX11_move_30
  · replace hf := p_f c3 hf
    refine x_aload_n hP dX11_move_8 rfl ?_
    refine x_iload_n hP dX11_move_9 rfl ?_
    obtain ⟨v5, hc4, hf⟩ := b_bd hf
    refine y_cvi hP oX11_isCorner lX11_103 [.int x2] [] rfl rfl rfl lay0 dX11_move_10 (t_X11_isCorner (d := d - 1) (by omega) hc4) (by omega) ?_
    refine x_if_eq hP dX11_move_13 (tgt := 29) (by decide) (fun c6 => ?_) (fun c6 => ?_)
    · replace hf := p_t c6 hf
      refine x_iconst hP dX11_move_29 (v := 0) rfl ?_
      cases hf
      exact x_zret hP rfl (Or.inl rfl) dX11_move_30
    · replace hf := p_f c6 hf
      refine x_aload_n hP dX11_move_16 rfl ?_
      refine x_getO hP fX11_73 lay0 (r := 60) rfl dX11_move_17 ?_
      refine x_getA hP fX11_148 lay60 (r := 61) rfl dX11_move_20 ?_
      refine x_iload_n hP dX11_move_23 rfl ?_
      obtain ⟨v7, hiv7, hv7, hf⟩ := b_ag hf
      refine y_ald hP lay61 hiv7 hv7 dX11_move_24 ?_
      refine x_iload_n hP dX11_move_25 rfl ?_
      refine x_icmp_ne hP dX11_move_26 (tgt := 31) (by decide) (fun c8 => ?_) (fun c8 => ?_)
      · replace hf := p_f c8 hf
        refine x_aload_n hP dX11_move_31 rfl ?_
        obtain ⟨M10, hc9, hf⟩ := b_bd hf
        refine y_cvv hP oX11_beginThing lX11_194 [] [] rfl rfl rfl lay0 dX11_move_32 (t_X11_beginThing (d := d - 1) (by omega) hc9) (by omega) ?_
        refine x_aload_n hP dX11_move_35 rfl ?_
        refine x_getO hP fX11_73 lay0 (r := 60) rfl dX11_move_36 ?_
        refine x_getA hP fX11_148 lay60 (r := 61) rfl dX11_move_39 ?_
        refine x_iload_n hP dX11_move_42 rfl ?_
        refine x_iload_n hP dX11_move_43 rfl ?_
        obtain ⟨M11, hiM11, hM11, hf⟩ := b_pg hf
        refine y_ast hP lay61 hiM11 hM11 dX11_move_44 ?_
        refine x_iconst hP dX11_move_45 (v := 1) rfl ?_
        cases hf
        exact x_zret hP rfl (Or.inr rfl) dX11_move_46
      · replace hf := p_t c8 hf
        refine x_iconst hP dX11_move_29 (v := 0) rfl ?_
        cases hf
        exact x_zret hP rfl (Or.inl rfl) dX11_move_30
def f_X11_rouge (x1 : Int32) (M : Mem) : Option (Int32 × Mem) :=
  (f_X11_isOut x1 M).bind fun v2 =>
  if v2 = 0 then
    some ((0 : Int32), M)
  else
    (f_X11_beginThing M).bind fun M5 =>
    (ag M5 62 6 x1).bind fun v6 =>
    lt (if v6 + (20 : Int32) < (999 : Int32) then v6 + (20 : Int32) else (999 : Int32) : Int32) fun v7 =>
    (pg M5 62 6 x1 v7).bind fun M8 =>
    lt (sI M8 60 4 ((M8.1 60 4) ||| ((1 : Int32) <<< (x1 &&& 31)))) fun M9 =>
    some ((1 : Int32), M9)
set_option maxHeartbeats 1000000 in
set_option maxRecDepth 20000 in
theorem t_X11_rouge {g : GG} {d : Nat} (hd : 5 ≤ d) {x1 : Int32} {M : Mem} {r : Int32} {M' : Mem} (hf : f_X11_rouge x1 M = some (r, M')) : ExM g d iX11_rouge [.ref 0, .int x1] LAY M (some (.int r), LAY, M') := by
  have hd1 : 1 ≤ d := by omega
  refine ExM.main pnX11 rfl (ls := [some (.ref 0), some (.int x1)]) rfl ?_
  intro P hP
  rw [f_X11_rouge] at hf
  refine x_aload_n hP dX11_rouge_0 rfl ?_
  refine x_iload_n hP dX11_rouge_1 rfl ?_
  obtain ⟨v2, hc1, hf⟩ := b_bd hf
  refine y_cvi hP oX11_isOut lX11_204 [.int x1] [] rfl rfl rfl lay0 dX11_rouge_2 (t_X11_isOut (d := d - 1) (by omega) hc1) (by omega) ?_
  refine x_if_ne hP dX11_rouge_5 (tgt := 10) (by decide) (fun c3 => ?_) (fun c3 => ?_)
  · replace hf := p_f c3 hf
    refine x_aload_n hP dX11_rouge_10 rfl ?_
    obtain ⟨M5, hc4, hf⟩ := b_bd hf
    refine y_cvv hP oX11_beginThing lX11_194 [] [] rfl rfl rfl lay0 dX11_rouge_11 (t_X11_beginThing (d := d - 1) (by omega) hc4) (by omega) ?_
    refine x_aload_n hP dX11_rouge_14 rfl ?_
    refine x_getO hP fX11_73 lay0 (r := 60) rfl dX11_rouge_15 ?_
    refine x_getA hP fX11_151 lay60 (r := 62) rfl dX11_rouge_18 ?_
    refine x_iload_n hP dX11_rouge_21 rfl ?_
    refine x_sipush hP dX11_rouge_22 (v := 999) rfl ?_
    refine x_aload_n hP dX11_rouge_25 rfl ?_
    refine x_getO hP fX11_73 lay0 (r := 60) rfl dX11_rouge_26 ?_
    refine x_getA hP fX11_151 lay60 (r := 62) rfl dX11_rouge_29 ?_
    refine x_iload_n hP dX11_rouge_32 rfl ?_
    obtain ⟨v6, hiv6, hv6, hf⟩ := b_ag hf
    refine y_ald hP lay62 hiv6 hv6 dX11_rouge_33 ?_
    refine x_bipush hP dX11_rouge_34 (v := 20) rfl ?_
    refine x_iadd hP dX11_rouge_36 ?_
    refine y_min hP lX11_221 rfl hd1 dX11_rouge_37 ?_
    obtain ⟨v7, hv7, hf⟩ := b_lt hf
    refine y_nmI hv7 ?_
    obtain ⟨M8, hiM8, hM8, hf⟩ := b_pg hf
    refine y_ast hP lay62 hiM8 hM8 dX11_rouge_40 ?_
    refine x_aload_n hP dX11_rouge_41 rfl ?_
    refine x_getO hP fX11_73 lay0 (r := 60) rfl dX11_rouge_42 ?_
    refine x_dup hP dX11_rouge_45 rfl ?_
    refine x_getI hP fX11_163 lay60 dX11_rouge_46 ?_
    refine x_iconst hP dX11_rouge_49 (v := 1) rfl ?_
    refine x_iload_n hP dX11_rouge_50 rfl ?_
    refine x_ishl hP dX11_rouge_51 ?_
    refine x_ior hP dX11_rouge_52 ?_
    obtain ⟨M9, hM9, hf⟩ := b_lt hf
    refine y_putI hP fX11_163 lay60 hM9 dX11_rouge_53 ?_
    refine x_iconst hP dX11_rouge_56 (v := 1) rfl ?_
    cases hf
    exact x_zret hP rfl (Or.inr rfl) dX11_rouge_57
  · replace hf := p_t c3 hf
    refine x_iconst hP dX11_rouge_8 (v := 0) rfl ?_
    cases hf
    exact x_zret hP rfl (Or.inl rfl) dX11_rouge_9
def f_X11_areHours (x0 : Int32) : Option (Int32) :=
  if x0 < 0 then
    some (0 : Int32)
  else
    if (72 : Int32) < x0 then
      some (0 : Int32)
    else
      some (1 : Int32)
set_option maxHeartbeats 1000000 in
set_option maxRecDepth 20000 in
theorem t_X11_areHours {g : GG} {L : List Lay} {d : Nat} (hd : 1 ≤ d) {x0 : Int32} {M : Mem} {r : Int32} (hf : f_X11_areHours x0 = some r) : ExM g d iX11_areHours [.int x0] L M (some (.int r), L, M) := by
  have hd1 : 1 ≤ d := by omega
  refine ExM.main pnX11 rfl (ls := [some (.int x0)]) rfl ?_
  intro P hP
  rw [f_X11_areHours] at hf
  refine x_iload_n hP dX11_areHours_0 rfl ?_
  refine x_if_lt hP dX11_areHours_1 (tgt := 14) (by decide) (fun c1 => ?_) (fun c1 => ?_)
  · replace hf := p_t c1 hf
    refine x_iconst hP dX11_areHours_14 (v := 0) rfl ?_
    cases hf
    exact x_zret hP rfl (Or.inl rfl) dX11_areHours_15
  · replace hf := p_f c1 hf
    refine x_iload_n hP dX11_areHours_4 rfl ?_
    refine x_bipush hP dX11_areHours_5 (v := 72) rfl ?_
    refine x_icmp_gt hP dX11_areHours_7 (tgt := 14) (by decide) (fun c2 => ?_) (fun c2 => ?_)
    · replace hf := p_t c2 hf
      refine x_iconst hP dX11_areHours_14 (v := 0) rfl ?_
      cases hf
      exact x_zret hP rfl (Or.inl rfl) dX11_areHours_15
    · replace hf := p_f c2 hf
      refine x_iconst hP dX11_areHours_10 (v := 1) rfl ?_
      refine x_goto hP dX11_areHours_11 (tgt := 15) (by decide) ?_
      cases hf
      exact x_zret hP rfl (Or.inr rfl) dX11_areHours_15
def f_X11_hours (x1 : Int32) (M : Mem) : Option (Int32 × Mem) :=
  (f_X11_areHours x1).bind fun v2 =>
  if v2 = 0 then
    some ((-1 : Int32), M)
  else
    if x1 ≤ 0 then
      some (M.1 60 1, M)
    else
      (f_X11_beginThing M).bind fun M6 =>
      (rT M6 0 9).bind fun t7 =>
      (f_X0_passHours 60 x1 (M6.1 t7 16) (1 : Int32) M6).bind fun M9 =>
      some (M9.1 60 1, M9)
set_option maxHeartbeats 1000000 in
set_option maxRecDepth 20000 in
theorem t_X11_hours {g : GG} {d : Nat} (hd : 6 ≤ d) {x1 : Int32} {M : Mem} {r : Int32} {M' : Mem} (hf : f_X11_hours x1 M = some (r, M')) : ExM g d iX11_hours [.ref 0, .int x1] LAY M (some (.int r), LAY, M') := by
  have hd1 : 1 ≤ d := by omega
  refine ExM.main pnX11 rfl (ls := [some (.ref 0), some (.int x1)]) rfl ?_
  intro P hP
  rw [f_X11_hours] at hf
  refine x_iload_n hP dX11_hours_0 rfl ?_
  obtain ⟨v2, hc1, hf⟩ := b_bd hf
  refine y_csi hP oX11_areHours lX11_224 [.int x1] [] rfl rfl rfl dX11_hours_1 (t_X11_areHours (d := d - 1) (by omega) hc1) (by omega) ?_
  refine x_if_ne hP dX11_hours_4 (tgt := 9) (by decide) (fun c3 => ?_) (fun c3 => ?_)
  · replace hf := p_f c3 hf
    refine x_iload_n hP dX11_hours_9 rfl ?_
    refine x_if_le hP dX11_hours_10 (tgt := 37) (by decide) (fun c4 => ?_) (fun c4 => ?_)
    · replace hf := p_t c4 hf
      refine x_aload_n hP dX11_hours_37 rfl ?_
      refine x_getO hP fX11_73 lay0 (r := 60) rfl dX11_hours_38 ?_
      refine x_getI hP fX11_218 lay60 dX11_hours_41 ?_
      cases hf
      exact x_iret hP rfl dX11_hours_44
    · replace hf := p_f c4 hf
      refine x_aload_n hP dX11_hours_13 rfl ?_
      obtain ⟨M6, hc5, hf⟩ := b_bd hf
      refine y_cvv hP oX11_beginThing lX11_194 [] [] rfl rfl rfl lay0 dX11_hours_14 (t_X11_beginThing (d := d - 1) (by omega) hc5) (by omega) ?_
      refine x_aload_n hP dX11_hours_17 rfl ?_
      refine x_getO hP fX11_38 lay0 (r := 34) rfl dX11_hours_18 ?_
      refine x_aload_n hP dX11_hours_21 rfl ?_
      refine x_getO hP fX11_73 lay0 (r := 60) rfl dX11_hours_22 ?_
      refine x_iload_n hP dX11_hours_25 rfl ?_
      refine x_aload_n hP dX11_hours_26 rfl ?_
      obtain ⟨t7, ht7, hrt7, hf⟩ := b_rT hf
      refine x_getM hP fX11_77 lay0 hrt7 dX11_hours_27 ?_
      refine x_getI hP fX11_197 (layT ht7) dX11_hours_30 ?_
      refine x_iconst hP dX11_hours_33 (v := 1) rfl ?_
      obtain ⟨M9, hc8, hf⟩ := b_bd hf
      refine y_cvv hP oX0_passHours lX11_200 [.ref 60, .int x1, .int (M6.1 t7 16), .int (1 : Int32)] [] rfl rfl rfl lay34 dX11_hours_34 (t_X0_passHours (d := d - 1) (by omega) isN_60 hc8) (by omega) ?_
      refine x_aload_n hP dX11_hours_37 rfl ?_
      refine x_getO hP fX11_73 lay0 (r := 60) rfl dX11_hours_38 ?_
      refine x_getI hP fX11_218 lay60 dX11_hours_41 ?_
      cases hf
      exact x_iret hP rfl dX11_hours_44
  · replace hf := p_t c3 hf
    refine x_iconst hP dX11_hours_7 (v := (-1)) rfl ?_
    cases hf
    exact x_iret hP rfl dX11_hours_8
def f_X11_undo (M : Mem) : Option (Int32 × Mem) :=
  lt (sI M 48 2 (1 : Int32)) fun M1 =>
  (f_X4_takeBack 60 M1).bind fun t3 =>
  zc t3.1 (some (t3.1, t3.2))
set_option maxHeartbeats 1000000 in
set_option maxRecDepth 20000 in
theorem t_X11_undo {g : GG} {d : Nat} (hd : 4 ≤ d) {M : Mem} {r : Int32} {M' : Mem} (hf : f_X11_undo M = some (r, M')) : ExM g d iX11_undo [.ref 0] LAY M (some (.int r), LAY, M') := by
  have hd1 : 1 ≤ d := by omega
  refine ExM.main pnX11 rfl (ls := [some (.ref 0)]) rfl ?_
  intro P hP
  rw [f_X11_undo] at hf
  refine x_aload_n hP dX11_undo_0 rfl ?_
  refine x_getO hP fX11_52 lay0 (r := 48) rfl dX11_undo_1 ?_
  refine x_iconst hP dX11_undo_4 (v := 1) rfl ?_
  obtain ⟨M1, hM1, hf⟩ := b_lt hf
  refine y_putZ hP fX11_227 (Or.inr rfl) lay48 hM1 dX11_undo_5 ?_
  refine x_aload_n hP dX11_undo_8 rfl ?_
  refine x_getO hP fX11_66 lay0 (r := 57) rfl dX11_undo_9 ?_
  refine x_aload_n hP dX11_undo_12 rfl ?_
  refine x_getO hP fX11_73 lay0 (r := 60) rfl dX11_undo_13 ?_
  obtain ⟨t3, hc2, hf⟩ := b_bd hf
  refine y_cvi hP oX4_takeBack lX11_231 [.ref 60] [] rfl rfl rfl lay57 dX11_undo_16 (t_X4_takeBack (d := d - 1) (by omega) isN_60 hc2) (by omega) ?_
  obtain ⟨hz4, hf⟩ := b_zc hf
  cases hf
  exact x_zret hP rfl hz4 dX11_undo_19
def f_X11_darkens (x1 : Int32) (M : Mem) : Option (Int32 × Mem) :=
  (f_X11_isStreet x1 M).bind fun v2 =>
  if v2 = 0 then
    some ((-1 : Int32), M)
  else
    (f_X0_hoursTillDark 60 x1 M).bind fun t5 =>
    some (t5.1, t5.2)
set_option maxHeartbeats 1000000 in
set_option maxRecDepth 20000 in
theorem t_X11_darkens {g : GG} {d : Nat} (hd : 7 ≤ d) {x1 : Int32} {M : Mem} {r : Int32} {M' : Mem} (hf : f_X11_darkens x1 M = some (r, M')) : ExM g d iX11_darkens [.ref 0, .int x1] LAY M (some (.int r), LAY, M') := by
  have hd1 : 1 ≤ d := by omega
  refine ExM.main pnX11 rfl (ls := [some (.ref 0), some (.int x1)]) rfl ?_
  intro P hP
  rw [f_X11_darkens] at hf
  refine x_aload_n hP dX11_darkens_0 rfl ?_
  refine x_iload_n hP dX11_darkens_1 rfl ?_
  obtain ⟨v2, hc1, hf⟩ := b_bd hf
  refine y_cvi hP oX11_isStreet lX11_120 [.int x1] [] rfl rfl rfl lay0 dX11_darkens_2 (t_X11_isStreet (d := d - 1) (by omega) hc1) (by omega) ?_
  refine x_if_eq hP dX11_darkens_5 (tgt := 23) (by decide) (fun c3 => ?_) (fun c3 => ?_)
  · replace hf := p_t c3 hf
    refine x_iconst hP dX11_darkens_23 (v := (-1)) rfl ?_
    cases hf
    exact x_iret hP rfl dX11_darkens_24
  · replace hf := p_f c3 hf
    refine x_aload_n hP dX11_darkens_8 rfl ?_
    refine x_getO hP fX11_38 lay0 (r := 34) rfl dX11_darkens_9 ?_
    refine x_aload_n hP dX11_darkens_12 rfl ?_
    refine x_getO hP fX11_73 lay0 (r := 60) rfl dX11_darkens_13 ?_
    refine x_iload_n hP dX11_darkens_16 rfl ?_
    obtain ⟨t5, hc4, hf⟩ := b_bd hf
    refine y_cvi hP oX0_hoursTillDark lX11_235 [.ref 60, .int x1] [] rfl rfl rfl lay34 dX11_darkens_17 (t_X0_hoursTillDark (d := d - 1) (by omega) isN_60 hc4) (by omega) ?_
    refine x_goto hP dX11_darkens_20 (tgt := 24) (by decide) ?_
    cases hf
    exact x_iret hP rfl dX11_darkens_24
def f_X11_best (x1 : Int32) (M : Mem) : Option (Int32 × Mem) :=
  lt (
    (f_X5_search 60 M).bind fun M3 =>
    if x1 = (-1 : Int32) then
      some (M3.1 48 1, M3)
    else
      (f_X3_isHome 60 x1 M3).bind fun v6 =>
      if v6 = 0 then
        (ag M3 49 6 x1).bind fun v8 =>
        some (v8, M3)
      else
        some ((-2 : Int32), M3)
    ) fun j1 =>
  if x1 = (-1 : Int32) then
    j1
  else
    (f_X11_isYoung x1 M).bind fun v11 =>
    if v11 = 0 then
      some ((-1 : Int32), M)
    else
      j1
set_option maxHeartbeats 1000000 in
set_option maxRecDepth 20000 in
theorem t_X11_best {g : GG} {d : Nat} (hd : 48 ≤ d) {x1 : Int32} {M : Mem} {r : Int32} {M' : Mem} (hf : f_X11_best x1 M = some (r, M')) : ExM g d iX11_best [.ref 0, .int x1] LAY M (some (.int r), LAY, M') := by
  have hd1 : 1 ≤ d := by omega
  refine ExM.main pnX11 rfl (ls := [some (.ref 0), some (.int x1)]) rfl ?_
  intro P hP
  rw [f_X11_best] at hf
  refine x_iload_n hP dX11_best_0 rfl ?_
  refine x_iconst hP dX11_best_1 (v := (-1)) rfl ?_
  obtain ⟨j1, hj1, hf⟩ := b_lt hf
  have hJj1 : j1 = some (r, M') → P 15 [some (.ref 0), some (.int x1)] [] LAY M := by
    intro hf
    rw [hj1] at hf
    try dsimp only at hf
    refine x_aload_n hP dX11_best_15 rfl ?_
    refine x_getO hP fX11_52 lay0 (r := 48) rfl dX11_best_16 ?_
    refine x_aload_n hP dX11_best_19 rfl ?_
    refine x_getO hP fX11_73 lay0 (r := 60) rfl dX11_best_20 ?_
    obtain ⟨M3, hc2, hf⟩ := b_bd hf
    refine y_cvv hP oX5_search lX11_238 [.ref 60] [] rfl rfl rfl lay48 dX11_best_23 (t_X5_search (d := d - 1) (by omega) isN_60 hc2) (by omega) ?_
    refine x_iload_n hP dX11_best_26 rfl ?_
    refine x_iconst hP dX11_best_27 (v := (-1)) rfl ?_
    refine x_icmp_ne hP dX11_best_28 (tgt := 39) (by decide) (fun c4 => ?_) (fun c4 => ?_)
    · replace hf := p_f c4 hf
      refine x_aload_n hP dX11_best_39 rfl ?_
      refine x_getO hP fX11_73 lay0 (r := 60) rfl dX11_best_40 ?_
      refine x_iload_n hP dX11_best_43 rfl ?_
      obtain ⟨v6, hc5, hf⟩ := b_bd hf
      refine y_cvi hP oX3_isHome lX11_154 [.int x1] [] rfl rfl rfl lay60 dX11_best_44 (t_X3_isHome (d := d - 1) (by omega) isN_60 hc5) (by omega) ?_
      refine x_if_eq hP dX11_best_47 (tgt := 55) (by decide) (fun c7 => ?_) (fun c7 => ?_)
      · replace hf := p_t c7 hf
        refine x_aload_n hP dX11_best_55 rfl ?_
        refine x_getO hP fX11_52 lay0 (r := 48) rfl dX11_best_56 ?_
        refine x_getA hP fX11_245 lay48 (r := 49) rfl dX11_best_59 ?_
        refine x_iload_n hP dX11_best_62 rfl ?_
        obtain ⟨v8, hiv8, hv8, hf⟩ := b_ag hf
        refine y_ald hP lay49 hiv8 hv8 dX11_best_63 ?_
        cases hf
        exact x_iret hP rfl dX11_best_64
      · replace hf := p_f c7 hf
        refine x_bipush hP dX11_best_50 (v := (-2)) rfl ?_
        refine x_goto hP dX11_best_52 (tgt := 64) (by decide) ?_
        cases hf
        exact x_iret hP rfl dX11_best_64
    · replace hf := p_t c4 hf
      refine x_aload_n hP dX11_best_31 rfl ?_
      refine x_getO hP fX11_52 lay0 (r := 48) rfl dX11_best_32 ?_
      refine x_getI hP fX11_242 lay48 dX11_best_35 ?_
      cases hf
      exact x_iret hP rfl dX11_best_38
  clear hj1
  refine x_icmp_eq hP dX11_best_2 (tgt := 15) (by decide) (fun c9 => ?_) (fun c9 => ?_)
  · replace hf := p_t c9 hf
    refine x_drop hP [some (.ref 0), some (.int x1)] (And.intro rfl (And.intro rfl trivial)) ?_
    exact hJj1  hf
  · replace hf := p_f c9 hf
    refine x_aload_n hP dX11_best_5 rfl ?_
    refine x_iload_n hP dX11_best_6 rfl ?_
    obtain ⟨v11, hc10, hf⟩ := b_bd hf
    refine y_cvi hP oX11_isYoung lX11_139 [.int x1] [] rfl rfl rfl lay0 dX11_best_7 (t_X11_isYoung (d := d - 1) (by omega) hc10) (by omega) ?_
    refine x_if_ne hP dX11_best_10 (tgt := 15) (by decide) (fun c12 => ?_) (fun c12 => ?_)
    · replace hf := p_f c12 hf
      refine x_drop hP [some (.ref 0), some (.int x1)] (And.intro rfl (And.intro rfl trivial)) ?_
      exact hJj1  hf
    · replace hf := p_t c12 hf
      refine x_iconst hP dX11_best_13 (v := (-1)) rfl ?_
      cases hf
      exact x_iret hP rfl dX11_best_14
def f_X11_isEither (x0 : Int32) : Option (Int32) :=
  if x0 = 0 then
    some (1 : Int32)
  else
    if x0 = (1 : Int32) then
      some (1 : Int32)
    else
      some (0 : Int32)
set_option maxHeartbeats 1000000 in
set_option maxRecDepth 20000 in
theorem t_X11_isEither {g : GG} {L : List Lay} {d : Nat} (hd : 1 ≤ d) {x0 : Int32} {M : Mem} {r : Int32} (hf : f_X11_isEither x0 = some r) : ExM g d iX11_isEither [.int x0] L M (some (.int r), L, M) := by
  have hd1 : 1 ≤ d := by omega
  refine ExM.main pnX11 rfl (ls := [some (.int x0)]) rfl ?_
  intro P hP
  rw [f_X11_isEither] at hf
  refine x_iload_n hP dX11_isEither_0 rfl ?_
  refine x_if_eq hP dX11_isEither_1 (tgt := 9) (by decide) (fun c1 => ?_) (fun c1 => ?_)
  · replace hf := p_t c1 hf
    refine x_iconst hP dX11_isEither_9 (v := 1) rfl ?_
    refine x_goto hP dX11_isEither_10 (tgt := 14) (by decide) ?_
    cases hf
    exact x_zret hP rfl (Or.inr rfl) dX11_isEither_14
  · replace hf := p_f c1 hf
    refine x_iload_n hP dX11_isEither_4 rfl ?_
    refine x_iconst hP dX11_isEither_5 (v := 1) rfl ?_
    refine x_icmp_ne hP dX11_isEither_6 (tgt := 13) (by decide) (fun c2 => ?_) (fun c2 => ?_)
    · replace hf := p_f c2 hf
      refine x_iconst hP dX11_isEither_13 (v := 0) rfl ?_
      cases hf
      exact x_zret hP rfl (Or.inl rfl) dX11_isEither_14
    · replace hf := p_t c2 hf
      refine x_iconst hP dX11_isEither_9 (v := 1) rfl ?_
      refine x_goto hP dX11_isEither_10 (tgt := 14) (by decide) ?_
      cases hf
      exact x_zret hP rfl (Or.inr rfl) dX11_isEither_14
def f_X11_telling (x1 : Int32) (x2 : Int32) (M : Mem) : Option (Int32 × Mem) :=
  (f_X11_isYoung x1 M).bind fun v2 =>
  if v2 = 0 then
    some ((-1 : Int32), M)
  else
    (f_X11_isEither x2).bind fun v5 =>
    if v5 = 0 then
      some ((-1 : Int32), M)
    else
      (rT M 0 9).bind fun t7 =>
      if M.1 t7 13 = 0 then
        some ((-2 : Int32), M)
      else
        (f_X3_isHome 60 x1 M).bind fun v10 =>
        if v10 = 0 then
          (f_X2_hottestFor 31 60 x1 M).bind fun t13 =>
          if x2 = 0 then
            some (t13.1, t13.2)
          else
            (f_X2_glowIfTold 31 60 x1 t13.1 t13.2).bind fun t16 =>
            some (t16.1, t16.2)
        else
          some ((-2 : Int32), M)
set_option maxHeartbeats 1000000 in
set_option maxRecDepth 20000 in
theorem t_X11_telling {g : GG} {d : Nat} (hd : 5 ≤ d) {x1 : Int32} {x2 : Int32} {M : Mem} {r : Int32} {M' : Mem} (hf : f_X11_telling x1 x2 M = some (r, M')) : ExM g d iX11_telling [.ref 0, .int x1, .int x2] LAY M (some (.int r), LAY, M') := by
  have hd1 : 1 ≤ d := by omega
  refine ExM.main pnX11 rfl (ls := [some (.ref 0), some (.int x1), some (.int x2), none]) rfl ?_
  intro P hP
  rw [f_X11_telling] at hf
  refine x_aload_n hP dX11_telling_0 rfl ?_
  refine x_iload_n hP dX11_telling_1 rfl ?_
  obtain ⟨v2, hc1, hf⟩ := b_bd hf
  refine y_cvi hP oX11_isYoung lX11_139 [.int x1] [] rfl rfl rfl lay0 dX11_telling_2 (t_X11_isYoung (d := d - 1) (by omega) hc1) (by omega) ?_
  refine x_if_eq hP dX11_telling_5 (tgt := 15) (by decide) (fun c3 => ?_) (fun c3 => ?_)
  · replace hf := p_t c3 hf
    refine x_iconst hP dX11_telling_15 (v := (-1)) rfl ?_
    cases hf
    exact x_iret hP rfl dX11_telling_16
  · replace hf := p_f c3 hf
    refine x_iload_n hP dX11_telling_8 rfl ?_
    obtain ⟨v5, hc4, hf⟩ := b_bd hf
    refine y_csi hP oX11_isEither lX11_248 [.int x2] [] rfl rfl rfl dX11_telling_9 (t_X11_isEither (d := d - 1) (by omega) hc4) (by omega) ?_
    refine x_if_ne hP dX11_telling_12 (tgt := 17) (by decide) (fun c6 => ?_) (fun c6 => ?_)
    · replace hf := p_f c6 hf
      refine x_aload_n hP dX11_telling_17 rfl ?_
      obtain ⟨t7, ht7, hrt7, hf⟩ := b_rT hf
      refine x_getM hP fX11_77 lay0 hrt7 dX11_telling_18 ?_
      refine x_getI hP fX11_251 (layT ht7) dX11_telling_21 ?_
      refine x_if_eq hP dX11_telling_24 (tgt := 38) (by decide) (fun c8 => ?_) (fun c8 => ?_)
      · replace hf := p_t c8 hf
        refine x_bipush hP dX11_telling_38 (v := (-2)) rfl ?_
        cases hf
        exact x_iret hP rfl dX11_telling_40
      · replace hf := p_f c8 hf
        refine x_aload_n hP dX11_telling_27 rfl ?_
        refine x_getO hP fX11_73 lay0 (r := 60) rfl dX11_telling_28 ?_
        refine x_iload_n hP dX11_telling_31 rfl ?_
        obtain ⟨v10, hc9, hf⟩ := b_bd hf
        refine y_cvi hP oX3_isHome lX11_154 [.int x1] [] rfl rfl rfl lay60 dX11_telling_32 (t_X3_isHome (d := d - 1) (by omega) isN_60 hc9) (by omega) ?_
        refine x_if_eq hP dX11_telling_35 (tgt := 41) (by decide) (fun c11 => ?_) (fun c11 => ?_)
        · replace hf := p_t c11 hf
          refine x_aload_n hP dX11_telling_41 rfl ?_
          refine x_getO hP fX11_31 lay0 (r := 31) rfl dX11_telling_42 ?_
          refine x_aload_n hP dX11_telling_45 rfl ?_
          refine x_getO hP fX11_73 lay0 (r := 60) rfl dX11_telling_46 ?_
          refine x_iload_n hP dX11_telling_49 rfl ?_
          obtain ⟨t13, hc12, hf⟩ := b_bd hf
          refine y_cvi hP oX2_hottestFor lX11_254 [.ref 60, .int x1] [] rfl rfl rfl lay31 dX11_telling_50 (t_X2_hottestFor (d := d - 1) (by omega) isL_31 isN_60 hc12) (by omega) ?_
          refine x_istore_n hP (ls2 := [some (.ref 0), some (.int x1), some (.int x2), some (.int t13.1)]) dX11_telling_53 rfl rfl rfl ?_
          refine x_iload_n hP dX11_telling_54 rfl ?_
          refine x_if_ne hP dX11_telling_55 (tgt := 62) (by decide) (fun c14 => ?_) (fun c14 => ?_)
          · replace hf := p_f c14 hf
            refine x_aload_n hP dX11_telling_62 rfl ?_
            refine x_getO hP fX11_31 lay0 (r := 31) rfl dX11_telling_63 ?_
            refine x_aload_n hP dX11_telling_66 rfl ?_
            refine x_getO hP fX11_73 lay0 (r := 60) rfl dX11_telling_67 ?_
            refine x_iload_n hP dX11_telling_70 rfl ?_
            refine x_iload_n hP dX11_telling_71 rfl ?_
            obtain ⟨t16, hc15, hf⟩ := b_bd hf
            refine y_cvi hP oX2_glowIfTold lX11_207 [.ref 60, .int x1, .int t13.1] [] rfl rfl rfl lay31 dX11_telling_72 (t_X2_glowIfTold (d := d - 1) (by omega) isL_31 isN_60 hc15) (by omega) ?_
            cases hf
            exact x_iret hP rfl dX11_telling_75
          · replace hf := p_t c14 hf
            refine x_iload_n hP dX11_telling_58 rfl ?_
            refine x_goto hP dX11_telling_59 (tgt := 75) (by decide) ?_
            cases hf
            exact x_iret hP rfl dX11_telling_75
        · replace hf := p_f c11 hf
          refine x_bipush hP dX11_telling_38 (v := (-2)) rfl ?_
          cases hf
          exact x_iret hP rfl dX11_telling_40
    · replace hf := p_t c6 hf
      refine x_iconst hP dX11_telling_15 (v := (-1)) rfl ?_
      cases hf
      exact x_iret hP rfl dX11_telling_16
def f_X11_keep (M : Mem) : Option (Int32 × Mem) :=
  (f_X3_firstOut 60 M).bind fun v2 =>
  (rT M 0 9).bind fun t3 =>
  if M.1 t3 13 = 0 then
    some ((-2 : Int32), M)
  else
    if v2 = (-1 : Int32) then
      some ((-2 : Int32), M)
    else
      (f_X2_mostLasting 31 60 v2 M).bind fun t7 =>
      some (t7.1, t7.2)
set_option maxHeartbeats 1000000 in
set_option maxRecDepth 20000 in
theorem t_X11_keep {g : GG} {d : Nat} (hd : 5 ≤ d) {M : Mem} {r : Int32} {M' : Mem} (hf : f_X11_keep M = some (r, M')) : ExM g d iX11_keep [.ref 0] LAY M (some (.int r), LAY, M') := by
  have hd1 : 1 ≤ d := by omega
  refine ExM.main pnX11 rfl (ls := [some (.ref 0), none]) rfl ?_
  intro P hP
  rw [f_X11_keep] at hf
  refine x_aload_n hP dX11_keep_0 rfl ?_
  refine x_getO hP fX11_73 lay0 (r := 60) rfl dX11_keep_1 ?_
  obtain ⟨v2, hc1, hf⟩ := b_bd hf
  refine y_cvi hP oX3_firstOut lX11_257 [] [] rfl rfl rfl lay60 dX11_keep_4 (t_X3_firstOut (d := d - 1) (by omega) isN_60 hc1) (by omega) ?_
  refine x_istore_n hP (ls2 := [some (.ref 0), some (.int v2)]) dX11_keep_7 rfl rfl rfl ?_
  refine x_aload_n hP dX11_keep_8 rfl ?_
  obtain ⟨t3, ht3, hrt3, hf⟩ := b_rT hf
  refine x_getM hP fX11_77 lay0 hrt3 dX11_keep_9 ?_
  refine x_getI hP fX11_251 (layT ht3) dX11_keep_12 ?_
  refine x_if_eq hP dX11_keep_15 (tgt := 23) (by decide) (fun c4 => ?_) (fun c4 => ?_)
  · replace hf := p_t c4 hf
    refine x_bipush hP dX11_keep_23 (v := (-2)) rfl ?_
    refine x_goto hP dX11_keep_25 (tgt := 40) (by decide) ?_
    cases hf
    exact x_iret hP rfl dX11_keep_40
  · replace hf := p_f c4 hf
    refine x_iload_n hP dX11_keep_18 rfl ?_
    refine x_iconst hP dX11_keep_19 (v := (-1)) rfl ?_
    refine x_icmp_ne hP dX11_keep_20 (tgt := 28) (by decide) (fun c5 => ?_) (fun c5 => ?_)
    · replace hf := p_f c5 hf
      refine x_aload_n hP dX11_keep_28 rfl ?_
      refine x_getO hP fX11_31 lay0 (r := 31) rfl dX11_keep_29 ?_
      refine x_aload_n hP dX11_keep_32 rfl ?_
      refine x_getO hP fX11_73 lay0 (r := 60) rfl dX11_keep_33 ?_
      refine x_iload_n hP dX11_keep_36 rfl ?_
      obtain ⟨t7, hc6, hf⟩ := b_bd hf
      refine y_cvi hP oX2_mostLasting lX11_261 [.ref 60, .int v2] [] rfl rfl rfl lay31 dX11_keep_37 (t_X2_mostLasting (d := d - 1) (by omega) isL_31 isN_60 hc6) (by omega) ?_
      cases hf
      exact x_iret hP rfl dX11_keep_40
    · replace hf := p_t c5 hf
      refine x_bipush hP dX11_keep_23 (v := (-2)) rfl ?_
      refine x_goto hP dX11_keep_25 (tgt := 40) (by decide) ?_
      cases hf
      exact x_iret hP rfl dX11_keep_40
def f_X11_steps (x1 : Int32) (x2 : Int32) (M : Mem) : Option (Int32 × Mem) :=
  (f_X11_isCorner x1 M).bind fun v2 =>
  if v2 = 0 then
    some ((-1 : Int32), M)
  else
    (f_X11_isCorner x2 M).bind fun v5 =>
    if v5 = 0 then
      some ((-1 : Int32), M)
    else
      (rT M 0 9).bind fun t7 =>
      (f_X10_fewest t7 x1 x2 (0 : Int32) M).bind fun t9 =>
      some (t9.1, t9.2)
set_option maxHeartbeats 1000000 in
set_option maxRecDepth 20000 in
theorem t_X11_steps {g : GG} {d : Nat} (hd : 4 ≤ d) {x1 : Int32} {x2 : Int32} {M : Mem} {r : Int32} {M' : Mem} (hf : f_X11_steps x1 x2 M = some (r, M')) : ExM g d iX11_steps [.ref 0, .int x1, .int x2] LAY M (some (.int r), LAY, M') := by
  have hd1 : 1 ≤ d := by omega
  refine ExM.main pnX11 rfl (ls := [some (.ref 0), some (.int x1), some (.int x2)]) rfl ?_
  intro P hP
  rw [f_X11_steps] at hf
  refine x_aload_n hP dX11_steps_0 rfl ?_
  refine x_iload_n hP dX11_steps_1 rfl ?_
  obtain ⟨v2, hc1, hf⟩ := b_bd hf
  refine y_cvi hP oX11_isCorner lX11_103 [.int x1] [] rfl rfl rfl lay0 dX11_steps_2 (t_X11_isCorner (d := d - 1) (by omega) hc1) (by omega) ?_
  refine x_if_eq hP dX11_steps_5 (tgt := 33) (by decide) (fun c3 => ?_) (fun c3 => ?_)
  · replace hf := p_t c3 hf
    refine x_iconst hP dX11_steps_33 (v := (-1)) rfl ?_
    cases hf
    exact x_iret hP rfl dX11_steps_34
  · replace hf := p_f c3 hf
    refine x_aload_n hP dX11_steps_8 rfl ?_
    refine x_iload_n hP dX11_steps_9 rfl ?_
    obtain ⟨v5, hc4, hf⟩ := b_bd hf
    refine y_cvi hP oX11_isCorner lX11_103 [.int x2] [] rfl rfl rfl lay0 dX11_steps_10 (t_X11_isCorner (d := d - 1) (by omega) hc4) (by omega) ?_
    refine x_if_eq hP dX11_steps_13 (tgt := 33) (by decide) (fun c6 => ?_) (fun c6 => ?_)
    · replace hf := p_t c6 hf
      refine x_iconst hP dX11_steps_33 (v := (-1)) rfl ?_
      cases hf
      exact x_iret hP rfl dX11_steps_34
    · replace hf := p_f c6 hf
      refine x_aload_n hP dX11_steps_16 rfl ?_
      refine x_getO hP fX11_45 lay0 (r := 45) rfl dX11_steps_17 ?_
      refine x_aload_n hP dX11_steps_20 rfl ?_
      obtain ⟨t7, ht7, hrt7, hf⟩ := b_rT hf
      refine x_getM hP fX11_77 lay0 hrt7 dX11_steps_21 ?_
      refine x_iload_n hP dX11_steps_24 rfl ?_
      refine x_iload_n hP dX11_steps_25 rfl ?_
      refine x_iconst hP dX11_steps_26 (v := 0) rfl ?_
      obtain ⟨t9, hc8, hf⟩ := b_bd hf
      refine y_cvi hP oX10_fewest lX11_264 [.ref t7, .int x1, .int x2, .int (0 : Int32)] [] rfl rfl rfl lay45 dX11_steps_27 (t_X10_fewest (d := d - 1) (by omega) ht7 hc8) (by omega) ?_
      refine x_goto hP dX11_steps_30 (tgt := 34) (by decide) ?_
      cases hf
      exact x_iret hP rfl dX11_steps_34
def f_X11_round (M : Mem) : Option (Int32 × Mem) :=
  (rT M 0 9).bind fun t1 =>
  if M.1 t1 10 = 0 then
    some ((-2 : Int32), M)
  else
    (rT M 0 9).bind fun t3 =>
    (f_X3_cornersInUse 60 M).bind fun v5 =>
    (f_X10_shortestRound t3 (M.1 60 2) v5 M).bind fun t7 =>
    some (t7.1, t7.2)
set_option maxHeartbeats 1000000 in
set_option maxRecDepth 20000 in
theorem t_X11_round {g : GG} {d : Nat} (hd : 48 ≤ d) {M : Mem} {r : Int32} {M' : Mem} (hf : f_X11_round M = some (r, M')) : ExM g d iX11_round [.ref 0] LAY M (some (.int r), LAY, M') := by
  have hd1 : 1 ≤ d := by omega
  refine ExM.main pnX11 rfl (ls := [some (.ref 0)]) rfl ?_
  intro P hP
  rw [f_X11_round] at hf
  refine x_aload_n hP dX11_round_0 rfl ?_
  obtain ⟨t1, ht1, hrt1, hf⟩ := b_rT hf
  refine x_getM hP fX11_77 lay0 hrt1 dX11_round_1 ?_
  refine x_getI hP fX11_268 (layT ht1) dX11_round_4 ?_
  refine x_if_ne hP dX11_round_7 (tgt := 13) (by decide) (fun c2 => ?_) (fun c2 => ?_)
  · replace hf := p_f c2 hf
    refine x_aload_n hP dX11_round_13 rfl ?_
    refine x_getO hP fX11_45 lay0 (r := 45) rfl dX11_round_14 ?_
    refine x_aload_n hP dX11_round_17 rfl ?_
    obtain ⟨t3, ht3, hrt3, hf⟩ := b_rT hf
    refine x_getM hP fX11_77 lay0 hrt3 dX11_round_18 ?_
    refine x_aload_n hP dX11_round_21 rfl ?_
    refine x_getO hP fX11_73 lay0 (r := 60) rfl dX11_round_22 ?_
    refine x_getI hP fX11_114 lay60 dX11_round_25 ?_
    refine x_aload_n hP dX11_round_28 rfl ?_
    refine x_getO hP fX11_73 lay0 (r := 60) rfl dX11_round_29 ?_
    obtain ⟨v5, hc4, hf⟩ := b_bd hf
    refine y_cvi hP oX3_cornersInUse lX11_271 [] [.int (M.1 60 2), .ref t3, .ref 45] rfl rfl rfl lay60 dX11_round_32 (t_X3_cornersInUse (d := d - 1) (by omega) isN_60 hc4) (by omega) ?_
    obtain ⟨t7, hc6, hf⟩ := b_bd hf
    refine y_cvi hP oX10_shortestRound lX11_274 [.ref t3, .int (M.1 60 2), .int v5] [] rfl rfl rfl lay45 dX11_round_35 (t_X10_shortestRound (d := d - 1) (by omega) ht3 hc6) (by omega) ?_
    cases hf
    exact x_iret hP rfl dX11_round_38
  · replace hf := p_t c2 hf
    refine x_bipush hP dX11_round_10 (v := (-2)) rfl ?_
    cases hf
    exact x_iret hP rfl dX11_round_12
def f_X11_safe (x1 : Int32) (M : Mem) : Option (Int32 × Mem) :=
  (f_X11_isCorner x1 M).bind fun v2 =>
  if v2 = 0 then
    some ((-1 : Int32), M)
  else
    (rT M 0 9).bind fun t4 =>
    (f_X3_litStreets 60 M).bind fun v6 =>
    (f_X10_reached t4 x1 v6 M).bind fun t8 =>
    some (t8.1, t8.2)
set_option maxHeartbeats 1000000 in
set_option maxRecDepth 20000 in
theorem t_X11_safe {g : GG} {d : Nat} (hd : 5 ≤ d) {x1 : Int32} {M : Mem} {r : Int32} {M' : Mem} (hf : f_X11_safe x1 M = some (r, M')) : ExM g d iX11_safe [.ref 0, .int x1] LAY M (some (.int r), LAY, M') := by
  have hd1 : 1 ≤ d := by omega
  refine ExM.main pnX11 rfl (ls := [some (.ref 0), some (.int x1)]) rfl ?_
  intro P hP
  rw [f_X11_safe] at hf
  refine x_aload_n hP dX11_safe_0 rfl ?_
  refine x_iload_n hP dX11_safe_1 rfl ?_
  obtain ⟨v2, hc1, hf⟩ := b_bd hf
  refine y_cvi hP oX11_isCorner lX11_103 [.int x1] [] rfl rfl rfl lay0 dX11_safe_2 (t_X11_isCorner (d := d - 1) (by omega) hc1) (by omega) ?_
  refine x_if_eq hP dX11_safe_5 (tgt := 30) (by decide) (fun c3 => ?_) (fun c3 => ?_)
  · replace hf := p_t c3 hf
    refine x_iconst hP dX11_safe_30 (v := (-1)) rfl ?_
    cases hf
    exact x_iret hP rfl dX11_safe_31
  · replace hf := p_f c3 hf
    refine x_aload_n hP dX11_safe_8 rfl ?_
    refine x_getO hP fX11_45 lay0 (r := 45) rfl dX11_safe_9 ?_
    refine x_aload_n hP dX11_safe_12 rfl ?_
    obtain ⟨t4, ht4, hrt4, hf⟩ := b_rT hf
    refine x_getM hP fX11_77 lay0 hrt4 dX11_safe_13 ?_
    refine x_iload_n hP dX11_safe_16 rfl ?_
    refine x_aload_n hP dX11_safe_17 rfl ?_
    refine x_getO hP fX11_73 lay0 (r := 60) rfl dX11_safe_18 ?_
    obtain ⟨v6, hc5, hf⟩ := b_bd hf
    refine y_cvi hP oX3_litStreets lX11_278 [] [.int x1, .ref t4, .ref 45] rfl rfl rfl lay60 dX11_safe_21 (t_X3_litStreets (d := d - 1) (by omega) isN_60 hc5) (by omega) ?_
    obtain ⟨t8, hc7, hf⟩ := b_bd hf
    refine y_cvi hP oX10_reached lX11_281 [.ref t4, .int x1, .int v6] [] rfl rfl rfl lay45 dX11_safe_24 (t_X10_reached (d := d - 1) (by omega) ht4 hc7) (by omega) ?_
    refine x_goto hP dX11_safe_27 (tgt := 31) (by decide) ?_
    cases hf
    exact x_iret hP rfl dX11_safe_31
def f_X11_dark (x1 : Int32) (x2 : Int32) (M : Mem) : Option (Int32 × Mem) :=
  (f_X11_isCorner x1 M).bind fun v2 =>
  if v2 = 0 then
    some ((-1 : Int32), M)
  else
    (f_X11_isCorner x2 M).bind fun v5 =>
    if v5 = 0 then
      some ((-1 : Int32), M)
    else
      (rT M 0 9).bind fun t7 =>
      (f_X3_litStreets 60 M).bind fun v9 =>
      (f_X10_fewest t7 x1 x2 v9 M).bind fun t11 =>
      some (t11.1, t11.2)
set_option maxHeartbeats 1000000 in
set_option maxRecDepth 20000 in
theorem t_X11_dark {g : GG} {d : Nat} (hd : 5 ≤ d) {x1 : Int32} {x2 : Int32} {M : Mem} {r : Int32} {M' : Mem} (hf : f_X11_dark x1 x2 M = some (r, M')) : ExM g d iX11_dark [.ref 0, .int x1, .int x2] LAY M (some (.int r), LAY, M') := by
  have hd1 : 1 ≤ d := by omega
  refine ExM.main pnX11 rfl (ls := [some (.ref 0), some (.int x1), some (.int x2)]) rfl ?_
  intro P hP
  rw [f_X11_dark] at hf
  refine x_aload_n hP dX11_dark_0 rfl ?_
  refine x_iload_n hP dX11_dark_1 rfl ?_
  obtain ⟨v2, hc1, hf⟩ := b_bd hf
  refine y_cvi hP oX11_isCorner lX11_103 [.int x1] [] rfl rfl rfl lay0 dX11_dark_2 (t_X11_isCorner (d := d - 1) (by omega) hc1) (by omega) ?_
  refine x_if_eq hP dX11_dark_5 (tgt := 39) (by decide) (fun c3 => ?_) (fun c3 => ?_)
  · replace hf := p_t c3 hf
    refine x_iconst hP dX11_dark_39 (v := (-1)) rfl ?_
    cases hf
    exact x_iret hP rfl dX11_dark_40
  · replace hf := p_f c3 hf
    refine x_aload_n hP dX11_dark_8 rfl ?_
    refine x_iload_n hP dX11_dark_9 rfl ?_
    obtain ⟨v5, hc4, hf⟩ := b_bd hf
    refine y_cvi hP oX11_isCorner lX11_103 [.int x2] [] rfl rfl rfl lay0 dX11_dark_10 (t_X11_isCorner (d := d - 1) (by omega) hc4) (by omega) ?_
    refine x_if_eq hP dX11_dark_13 (tgt := 39) (by decide) (fun c6 => ?_) (fun c6 => ?_)
    · replace hf := p_t c6 hf
      refine x_iconst hP dX11_dark_39 (v := (-1)) rfl ?_
      cases hf
      exact x_iret hP rfl dX11_dark_40
    · replace hf := p_f c6 hf
      refine x_aload_n hP dX11_dark_16 rfl ?_
      refine x_getO hP fX11_45 lay0 (r := 45) rfl dX11_dark_17 ?_
      refine x_aload_n hP dX11_dark_20 rfl ?_
      obtain ⟨t7, ht7, hrt7, hf⟩ := b_rT hf
      refine x_getM hP fX11_77 lay0 hrt7 dX11_dark_21 ?_
      refine x_iload_n hP dX11_dark_24 rfl ?_
      refine x_iload_n hP dX11_dark_25 rfl ?_
      refine x_aload_n hP dX11_dark_26 rfl ?_
      refine x_getO hP fX11_73 lay0 (r := 60) rfl dX11_dark_27 ?_
      obtain ⟨v9, hc8, hf⟩ := b_bd hf
      refine y_cvi hP oX3_litStreets lX11_278 [] [.int x2, .int x1, .ref t7, .ref 45] rfl rfl rfl lay60 dX11_dark_30 (t_X3_litStreets (d := d - 1) (by omega) isN_60 hc8) (by omega) ?_
      obtain ⟨t11, hc10, hf⟩ := b_bd hf
      refine y_cvi hP oX10_fewest lX11_264 [.ref t7, .int x1, .int x2, .int v9] [] rfl rfl rfl lay45 dX11_dark_33 (t_X10_fewest (d := d - 1) (by omega) ht7 hc10) (by omega) ?_
      refine x_goto hP dX11_dark_36 (tgt := 40) (by decide) ?_
      cases hf
      exact x_iret hP rfl dX11_dark_40
def f_X11_bridges (M : Mem) : Option (Int32 × Mem) :=
  (rT M 0 9).bind fun t1 =>
  (f_X3_litStreets 60 M).bind fun v3 =>
  (f_X10_onlyWays t1 v3 M).bind fun t5 =>
  some (t5.1, t5.2)
set_option maxHeartbeats 1000000 in
set_option maxRecDepth 20000 in
theorem t_X11_bridges {g : GG} {d : Nat} (hd : 5 ≤ d) {M : Mem} {r : Int32} {M' : Mem} (hf : f_X11_bridges M = some (r, M')) : ExM g d iX11_bridges [.ref 0] LAY M (some (.int r), LAY, M') := by
  have hd1 : 1 ≤ d := by omega
  refine ExM.main pnX11 rfl (ls := [some (.ref 0)]) rfl ?_
  intro P hP
  rw [f_X11_bridges] at hf
  refine x_aload_n hP dX11_bridges_0 rfl ?_
  refine x_getO hP fX11_45 lay0 (r := 45) rfl dX11_bridges_1 ?_
  refine x_aload_n hP dX11_bridges_4 rfl ?_
  obtain ⟨t1, ht1, hrt1, hf⟩ := b_rT hf
  refine x_getM hP fX11_77 lay0 hrt1 dX11_bridges_5 ?_
  refine x_aload_n hP dX11_bridges_8 rfl ?_
  refine x_getO hP fX11_73 lay0 (r := 60) rfl dX11_bridges_9 ?_
  obtain ⟨v3, hc2, hf⟩ := b_bd hf
  refine y_cvi hP oX3_litStreets lX11_278 [] [.ref t1, .ref 45] rfl rfl rfl lay60 dX11_bridges_12 (t_X3_litStreets (d := d - 1) (by omega) isN_60 hc2) (by omega) ?_
  obtain ⟨t5, hc4, hf⟩ := b_bd hf
  refine y_cvi hP oX10_onlyWays lX11_284 [.ref t1, .int v3] [] rfl rfl rfl lay45 dX11_bridges_15 (t_X10_onlyWays (d := d - 1) (by omega) ht1 hc4) (by omega) ?_
  cases hf
  exact x_iret hP rfl dX11_bridges_18
def f_X11_gather (x1 : Int32) (M : Mem) : Option (Int32 × Mem) :=
  (f_X11_isEither x1).bind fun v2 =>
  if v2 = 0 then
    some ((-1 : Int32), M)
  else
    (f_X10_nearestToAll 60 M).bind fun t5 =>
    if t5.1 = (-1 : Int32) then
      some ((-2 : Int32), t5.2)
    else
      if x1 = 0 then
        some (t5.1, t5.2)
      else
        (f_X10_stepsOfAll 60 t5.1 t5.2).bind fun t9 =>
        some (t9.1, t9.2)
set_option maxHeartbeats 1000000 in
set_option maxRecDepth 20000 in
theorem t_X11_gather {g : GG} {d : Nat} (hd : 5 ≤ d) {x1 : Int32} {M : Mem} {r : Int32} {M' : Mem} (hf : f_X11_gather x1 M = some (r, M')) : ExM g d iX11_gather [.ref 0, .int x1] LAY M (some (.int r), LAY, M') := by
  have hd1 : 1 ≤ d := by omega
  refine ExM.main pnX11 rfl (ls := [some (.ref 0), some (.int x1), none]) rfl ?_
  intro P hP
  rw [f_X11_gather] at hf
  refine x_iload_n hP dX11_gather_0 rfl ?_
  obtain ⟨v2, hc1, hf⟩ := b_bd hf
  refine y_csi hP oX11_isEither lX11_248 [.int x1] [] rfl rfl rfl dX11_gather_1 (t_X11_isEither (d := d - 1) (by omega) hc1) (by omega) ?_
  refine x_if_ne hP dX11_gather_4 (tgt := 9) (by decide) (fun c3 => ?_) (fun c3 => ?_)
  · replace hf := p_f c3 hf
    refine x_aload_n hP dX11_gather_9 rfl ?_
    refine x_getO hP fX11_45 lay0 (r := 45) rfl dX11_gather_10 ?_
    refine x_aload_n hP dX11_gather_13 rfl ?_
    refine x_getO hP fX11_73 lay0 (r := 60) rfl dX11_gather_14 ?_
    obtain ⟨t5, hc4, hf⟩ := b_bd hf
    refine y_cvi hP oX10_nearestToAll lX11_288 [.ref 60] [] rfl rfl rfl lay45 dX11_gather_17 (t_X10_nearestToAll (d := d - 1) (by omega) isN_60 hc4) (by omega) ?_
    refine x_istore_n hP (ls2 := [some (.ref 0), some (.int x1), some (.int t5.1)]) dX11_gather_20 rfl rfl rfl ?_
    refine x_iload_n hP dX11_gather_21 rfl ?_
    refine x_iconst hP dX11_gather_22 (v := (-1)) rfl ?_
    refine x_icmp_ne hP dX11_gather_23 (tgt := 29) (by decide) (fun c6 => ?_) (fun c6 => ?_)
    · replace hf := p_f c6 hf
      refine x_iload_n hP dX11_gather_29 rfl ?_
      refine x_if_ne hP dX11_gather_30 (tgt := 37) (by decide) (fun c7 => ?_) (fun c7 => ?_)
      · replace hf := p_f c7 hf
        refine x_aload_n hP dX11_gather_37 rfl ?_
        refine x_getO hP fX11_45 lay0 (r := 45) rfl dX11_gather_38 ?_
        refine x_aload_n hP dX11_gather_41 rfl ?_
        refine x_getO hP fX11_73 lay0 (r := 60) rfl dX11_gather_42 ?_
        refine x_iload_n hP dX11_gather_45 rfl ?_
        obtain ⟨t9, hc8, hf⟩ := b_bd hf
        refine y_cvi hP oX10_stepsOfAll lX11_292 [.ref 60, .int t5.1] [] rfl rfl rfl lay45 dX11_gather_46 (t_X10_stepsOfAll (d := d - 1) (by omega) isN_60 hc8) (by omega) ?_
        cases hf
        exact x_iret hP rfl dX11_gather_49
      · replace hf := p_t c7 hf
        refine x_iload_n hP dX11_gather_33 rfl ?_
        refine x_goto hP dX11_gather_34 (tgt := 49) (by decide) ?_
        cases hf
        exact x_iret hP rfl dX11_gather_49
    · replace hf := p_t c6 hf
      refine x_bipush hP dX11_gather_26 (v := (-2)) rfl ?_
      cases hf
      exact x_iret hP rfl dX11_gather_28
  · replace hf := p_t c3 hf
    refine x_iconst hP dX11_gather_7 (v := (-1)) rfl ?_
    cases hf
    exact x_iret hP rfl dX11_gather_8
def f_X11_moves (x1 : Int32) (x2 : Int32) (M : Mem) : Option (Int32) :=
  (f_X11_isStreet x1 M).bind fun v2 =>
  if v2 = 0 then
    some (-1 : Int32)
  else
    (f_X11_isEither x2).bind fun v5 =>
    if v5 = 0 then
      some (-1 : Int32)
    else
      (f_X5_fewestFor 60 x1 M).bind fun v8 =>
      if v8 = (-1 : Int32) then
        some (-2 : Int32)
      else
        if x2 = 0 then
          (f_J6_bitCount_0f7a4 v8).bind fun v12 =>
          some v12
        else
          some v8
set_option maxHeartbeats 1000000 in
set_option maxRecDepth 20000 in
theorem t_X11_moves {g : GG} {d : Nat} (hd : 4 ≤ d) {x1 : Int32} {x2 : Int32} {M : Mem} {r : Int32} (hf : f_X11_moves x1 x2 M = some r) : ExM g d iX11_moves [.ref 0, .int x1, .int x2] LAY M (some (.int r), LAY, M) := by
  have hd1 : 1 ≤ d := by omega
  refine ExM.main pnX11 rfl (ls := [some (.ref 0), some (.int x1), some (.int x2), none]) rfl ?_
  intro P hP
  rw [f_X11_moves] at hf
  refine x_aload_n hP dX11_moves_0 rfl ?_
  refine x_iload_n hP dX11_moves_1 rfl ?_
  obtain ⟨v2, hc1, hf⟩ := b_bd hf
  refine y_cvi hP oX11_isStreet lX11_120 [.int x1] [] rfl rfl rfl lay0 dX11_moves_2 (t_X11_isStreet (d := d - 1) (by omega) hc1) (by omega) ?_
  refine x_if_eq hP dX11_moves_5 (tgt := 15) (by decide) (fun c3 => ?_) (fun c3 => ?_)
  · replace hf := p_t c3 hf
    refine x_iconst hP dX11_moves_15 (v := (-1)) rfl ?_
    cases hf
    exact x_iret hP rfl dX11_moves_16
  · replace hf := p_f c3 hf
    refine x_iload_n hP dX11_moves_8 rfl ?_
    obtain ⟨v5, hc4, hf⟩ := b_bd hf
    refine y_csi hP oX11_isEither lX11_248 [.int x2] [] rfl rfl rfl dX11_moves_9 (t_X11_isEither (d := d - 1) (by omega) hc4) (by omega) ?_
    refine x_if_ne hP dX11_moves_12 (tgt := 17) (by decide) (fun c6 => ?_) (fun c6 => ?_)
    · replace hf := p_f c6 hf
      refine x_aload_n hP dX11_moves_17 rfl ?_
      refine x_getO hP fX11_52 lay0 (r := 48) rfl dX11_moves_18 ?_
      refine x_aload_n hP dX11_moves_21 rfl ?_
      refine x_getO hP fX11_73 lay0 (r := 60) rfl dX11_moves_22 ?_
      refine x_iload_n hP dX11_moves_25 rfl ?_
      obtain ⟨v8, hc7, hf⟩ := b_bd hf
      refine y_cvi hP oX5_fewestFor lX11_295 [.ref 60, .int x1] [] rfl rfl rfl lay48 dX11_moves_26 (t_X5_fewestFor (d := d - 1) (by omega) isN_60 hc7) (by omega) ?_
      refine x_istore_n hP (ls2 := [some (.ref 0), some (.int x1), some (.int x2), some (.int v8)]) dX11_moves_29 rfl rfl rfl ?_
      refine x_iload_n hP dX11_moves_30 rfl ?_
      refine x_iconst hP dX11_moves_31 (v := (-1)) rfl ?_
      refine x_icmp_ne hP dX11_moves_32 (tgt := 38) (by decide) (fun c9 => ?_) (fun c9 => ?_)
      · replace hf := p_f c9 hf
        refine x_iload_n hP dX11_moves_38 rfl ?_
        refine x_if_ne hP dX11_moves_39 (tgt := 49) (by decide) (fun c10 => ?_) (fun c10 => ?_)
        · replace hf := p_f c10 hf
          refine x_iload_n hP dX11_moves_49 rfl ?_
          cases hf
          exact x_iret hP rfl dX11_moves_50
        · replace hf := p_t c10 hf
          refine x_iload_n hP dX11_moves_42 rfl ?_
          obtain ⟨v12, hc11, hf⟩ := b_bd hf
          refine y_csi hP oJ6_bitCount_0f7a4 lX11_298 [.int v8] [] rfl rfl rfl dX11_moves_43 (t_J6_bitCount_0f7a4 (d := d - 1) (by omega) hc11) (by omega) ?_
          refine x_goto hP dX11_moves_46 (tgt := 50) (by decide) ?_
          cases hf
          exact x_iret hP rfl dX11_moves_50
      · replace hf := p_t c9 hf
        refine x_bipush hP dX11_moves_35 (v := (-2)) rfl ?_
        cases hf
        exact x_iret hP rfl dX11_moves_37
    · replace hf := p_t c6 hf
      refine x_iconst hP dX11_moves_15 (v := (-1)) rfl ?_
      cases hf
      exact x_iret hP rfl dX11_moves_16
def f_X11_cut (x1 : Int32) (x2 : Int32) (M : Mem) : Option (Int32) :=
  (f_X11_isCorner x1 M).bind fun v2 =>
  if v2 = 0 then
    some (-1 : Int32)
  else
    (f_X11_isCorner x2 M).bind fun v5 =>
    if v5 = 0 then
      some (-1 : Int32)
    else
      if x1 = x2 then
        some (-1 : Int32)
      else
        (rT M 0 9).bind fun t8 =>
        (f_X3_litStreets 60 M).bind fun v10 =>
        (f_X10_fewestBetween t8 x1 x2 v10 M).bind fun v12 =>
        some v12
set_option maxHeartbeats 1000000 in
set_option maxRecDepth 20000 in
theorem t_X11_cut {g : GG} {d : Nat} (hd : 5 ≤ d) {x1 : Int32} {x2 : Int32} {M : Mem} {r : Int32} (hf : f_X11_cut x1 x2 M = some r) : ExM g d iX11_cut [.ref 0, .int x1, .int x2] LAY M (some (.int r), LAY, M) := by
  have hd1 : 1 ≤ d := by omega
  refine ExM.main pnX11 rfl (ls := [some (.ref 0), some (.int x1), some (.int x2)]) rfl ?_
  intro P hP
  rw [f_X11_cut] at hf
  refine x_aload_n hP dX11_cut_0 rfl ?_
  refine x_iload_n hP dX11_cut_1 rfl ?_
  obtain ⟨v2, hc1, hf⟩ := b_bd hf
  refine y_cvi hP oX11_isCorner lX11_103 [.int x1] [] rfl rfl rfl lay0 dX11_cut_2 (t_X11_isCorner (d := d - 1) (by omega) hc1) (by omega) ?_
  refine x_if_eq hP dX11_cut_5 (tgt := 21) (by decide) (fun c3 => ?_) (fun c3 => ?_)
  · replace hf := p_t c3 hf
    refine x_iconst hP dX11_cut_21 (v := (-1)) rfl ?_
    cases hf
    exact x_iret hP rfl dX11_cut_22
  · replace hf := p_f c3 hf
    refine x_aload_n hP dX11_cut_8 rfl ?_
    refine x_iload_n hP dX11_cut_9 rfl ?_
    obtain ⟨v5, hc4, hf⟩ := b_bd hf
    refine y_cvi hP oX11_isCorner lX11_103 [.int x2] [] rfl rfl rfl lay0 dX11_cut_10 (t_X11_isCorner (d := d - 1) (by omega) hc4) (by omega) ?_
    refine x_if_eq hP dX11_cut_13 (tgt := 21) (by decide) (fun c6 => ?_) (fun c6 => ?_)
    · replace hf := p_t c6 hf
      refine x_iconst hP dX11_cut_21 (v := (-1)) rfl ?_
      cases hf
      exact x_iret hP rfl dX11_cut_22
    · replace hf := p_f c6 hf
      refine x_iload_n hP dX11_cut_16 rfl ?_
      refine x_iload_n hP dX11_cut_17 rfl ?_
      refine x_icmp_ne hP dX11_cut_18 (tgt := 23) (by decide) (fun c7 => ?_) (fun c7 => ?_)
      · replace hf := p_f c7 hf
        refine x_aload_n hP dX11_cut_23 rfl ?_
        refine x_getO hP fX11_45 lay0 (r := 45) rfl dX11_cut_24 ?_
        refine x_aload_n hP dX11_cut_27 rfl ?_
        obtain ⟨t8, ht8, hrt8, hf⟩ := b_rT hf
        refine x_getM hP fX11_77 lay0 hrt8 dX11_cut_28 ?_
        refine x_iload_n hP dX11_cut_31 rfl ?_
        refine x_iload_n hP dX11_cut_32 rfl ?_
        refine x_aload_n hP dX11_cut_33 rfl ?_
        refine x_getO hP fX11_73 lay0 (r := 60) rfl dX11_cut_34 ?_
        obtain ⟨v10, hc9, hf⟩ := b_bd hf
        refine y_cvi hP oX3_litStreets lX11_278 [] [.int x2, .int x1, .ref t8, .ref 45] rfl rfl rfl lay60 dX11_cut_37 (t_X3_litStreets (d := d - 1) (by omega) isN_60 hc9) (by omega) ?_
        obtain ⟨v12, hc11, hf⟩ := b_bd hf
        refine y_cvi hP oX10_fewestBetween lX11_303 [.ref t8, .int x1, .int x2, .int v10] [] rfl rfl rfl lay45 dX11_cut_40 (t_X10_fewestBetween (d := d - 1) (by omega) ht8 hc11) (by omega) ?_
        cases hf
        exact x_iret hP rfl dX11_cut_43
      · replace hf := p_t c7 hf
        refine x_iconst hP dX11_cut_21 (v := (-1)) rfl ?_
        cases hf
        exact x_iret hP rfl dX11_cut_22
def f_X11_tree (M : Mem) : Option (Int32) :=
  (rT M 0 9).bind fun t1 =>
  (f_X10_shortestJoin t1 M).bind fun v3 =>
  some v3
set_option maxHeartbeats 1000000 in
set_option maxRecDepth 20000 in
theorem t_X11_tree {g : GG} {d : Nat} (hd : 4 ≤ d) {M : Mem} {r : Int32} (hf : f_X11_tree M = some r) : ExM g d iX11_tree [.ref 0] LAY M (some (.int r), LAY, M) := by
  have hd1 : 1 ≤ d := by omega
  refine ExM.main pnX11 rfl (ls := [some (.ref 0)]) rfl ?_
  intro P hP
  rw [f_X11_tree] at hf
  refine x_aload_n hP dX11_tree_0 rfl ?_
  refine x_getO hP fX11_45 lay0 (r := 45) rfl dX11_tree_1 ?_
  refine x_aload_n hP dX11_tree_4 rfl ?_
  obtain ⟨t1, ht1, hrt1, hf⟩ := b_rT hf
  refine x_getM hP fX11_77 lay0 hrt1 dX11_tree_5 ?_
  obtain ⟨v3, hc2, hf⟩ := b_bd hf
  refine y_cvi hP oX10_shortestJoin lX11_306 [.ref t1] [] rfl rfl rfl lay45 dX11_tree_8 (t_X10_shortestJoin (d := d - 1) (by omega) ht1 hc2) (by omega) ?_
  cases hf
  exact x_iret hP rfl dX11_tree_11
def f_X11_twins (x1 : Int32) (M : Mem) : Option (Int32 × Mem) :=
  (f_X11_isEither x1).bind fun v2 =>
  if v2 = 0 then
    some ((-1 : Int32), M)
  else
    (rT M 0 9).bind fun t4 =>
    if (2 : Int32) ≤ M.1 t4 13 then
      (f_X2_mostAlike 31 60 M).bind fun t7 =>
      if x1 = 0 then
        some (t7.1, t7.2)
      else
        (f_X2_apart 31 60 (t7.1 / (10 : Int32)) (t7.1 - t7.1 / (10 : Int32) * (10 : Int32)) t7.2).bind fun t10 =>
        some (t10.1, t10.2)
    else
      some ((-2 : Int32), M)
set_option maxHeartbeats 1000000 in
set_option maxRecDepth 20000 in
theorem t_X11_twins {g : GG} {d : Nat} (hd : 6 ≤ d) {x1 : Int32} {M : Mem} {r : Int32} {M' : Mem} (hf : f_X11_twins x1 M = some (r, M')) : ExM g d iX11_twins [.ref 0, .int x1] LAY M (some (.int r), LAY, M') := by
  have hd1 : 1 ≤ d := by omega
  refine ExM.main pnX11 rfl (ls := [some (.ref 0), some (.int x1), none]) rfl ?_
  intro P hP
  rw [f_X11_twins] at hf
  refine x_iload_n hP dX11_twins_0 rfl ?_
  obtain ⟨v2, hc1, hf⟩ := b_bd hf
  refine y_csi hP oX11_isEither lX11_248 [.int x1] [] rfl rfl rfl dX11_twins_1 (t_X11_isEither (d := d - 1) (by omega) hc1) (by omega) ?_
  refine x_if_ne hP dX11_twins_4 (tgt := 9) (by decide) (fun c3 => ?_) (fun c3 => ?_)
  · replace hf := p_f c3 hf
    refine x_aload_n hP dX11_twins_9 rfl ?_
    obtain ⟨t4, ht4, hrt4, hf⟩ := b_rT hf
    refine x_getM hP fX11_77 lay0 hrt4 dX11_twins_10 ?_
    refine x_getI hP fX11_251 (layT ht4) dX11_twins_13 ?_
    refine x_iconst hP dX11_twins_16 (v := 2) rfl ?_
    refine x_icmp_ge hP dX11_twins_17 (tgt := 23) (by decide) (fun c5 => ?_) (fun c5 => ?_)
    · replace hf := p_t c5 hf
      refine x_aload_n hP dX11_twins_23 rfl ?_
      refine x_getO hP fX11_31 lay0 (r := 31) rfl dX11_twins_24 ?_
      refine x_aload_n hP dX11_twins_27 rfl ?_
      refine x_getO hP fX11_73 lay0 (r := 60) rfl dX11_twins_28 ?_
      obtain ⟨t7, hc6, hf⟩ := b_bd hf
      refine y_cvi hP oX2_mostAlike lX11_310 [.ref 60] [] rfl rfl rfl lay31 dX11_twins_31 (t_X2_mostAlike (d := d - 1) (by omega) isL_31 isN_60 hc6) (by omega) ?_
      refine x_istore_n hP (ls2 := [some (.ref 0), some (.int x1), some (.int t7.1)]) dX11_twins_34 rfl rfl rfl ?_
      refine x_iload_n hP dX11_twins_35 rfl ?_
      refine x_if_ne hP dX11_twins_36 (tgt := 43) (by decide) (fun c8 => ?_) (fun c8 => ?_)
      · replace hf := p_f c8 hf
        refine x_aload_n hP dX11_twins_43 rfl ?_
        refine x_getO hP fX11_31 lay0 (r := 31) rfl dX11_twins_44 ?_
        refine x_aload_n hP dX11_twins_47 rfl ?_
        refine x_getO hP fX11_73 lay0 (r := 60) rfl dX11_twins_48 ?_
        refine x_iload_n hP dX11_twins_51 rfl ?_
        refine x_bipush hP dX11_twins_52 (v := 10) rfl ?_
        refine x_idiv hP dX11_twins_54 (by decide) ?_
        refine x_iload_n hP dX11_twins_55 rfl ?_
        refine x_bipush hP dX11_twins_56 (v := 10) rfl ?_
        refine x_irem hP dX11_twins_58 (by decide) ?_
        obtain ⟨t10, hc9, hf⟩ := b_bd hf
        refine y_cvi hP oX2_apart lX11_313 [.ref 60, .int (t7.1 / (10 : Int32)), .int (t7.1 - t7.1 / (10 : Int32) * (10 : Int32))] [] rfl rfl rfl lay31 dX11_twins_59 (t_X2_apart (d := d - 1) (by omega) isL_31 isN_60 hc9) (by omega) ?_
        cases hf
        exact x_iret hP rfl dX11_twins_62
      · replace hf := p_t c8 hf
        refine x_iload_n hP dX11_twins_39 rfl ?_
        refine x_goto hP dX11_twins_40 (tgt := 62) (by decide) ?_
        cases hf
        exact x_iret hP rfl dX11_twins_62
    · replace hf := p_f c5 hf
      refine x_bipush hP dX11_twins_20 (v := (-2)) rfl ?_
      cases hf
      exact x_iret hP rfl dX11_twins_22
  · replace hf := p_t c3 hf
    refine x_iconst hP dX11_twins_7 (v := (-1)) rfl ?_
    cases hf
    exact x_iret hP rfl dX11_twins_8
def f_X11_brightest (x1 : Int32) (M : Mem) : Option (Int32) :=
  (f_X11_isEither x1).bind fun v2 =>
  if v2 = 0 then
    some (-1 : Int32)
  else
    (rT M 0 9).bind fun t4 =>
    if M.1 t4 10 = 0 then
      some (-2 : Int32)
    else
      (f_X3_lightestCorner 60 M).bind fun v7 =>
      if x1 = 0 then
        some v7
      else
        (f_X3_lightAt 60 v7 M).bind fun v10 =>
        some v10
set_option maxHeartbeats 1000000 in
set_option maxRecDepth 20000 in
theorem t_X11_brightest {g : GG} {d : Nat} (hd : 3 ≤ d) {x1 : Int32} {M : Mem} {r : Int32} (hf : f_X11_brightest x1 M = some r) : ExM g d iX11_brightest [.ref 0, .int x1] LAY M (some (.int r), LAY, M) := by
  have hd1 : 1 ≤ d := by omega
  refine ExM.main pnX11 rfl (ls := [some (.ref 0), some (.int x1), none]) rfl ?_
  intro P hP
  rw [f_X11_brightest] at hf
  refine x_iload_n hP dX11_brightest_0 rfl ?_
  obtain ⟨v2, hc1, hf⟩ := b_bd hf
  refine y_csi hP oX11_isEither lX11_248 [.int x1] [] rfl rfl rfl dX11_brightest_1 (t_X11_isEither (d := d - 1) (by omega) hc1) (by omega) ?_
  refine x_if_ne hP dX11_brightest_4 (tgt := 9) (by decide) (fun c3 => ?_) (fun c3 => ?_)
  · replace hf := p_f c3 hf
    refine x_aload_n hP dX11_brightest_9 rfl ?_
    obtain ⟨t4, ht4, hrt4, hf⟩ := b_rT hf
    refine x_getM hP fX11_77 lay0 hrt4 dX11_brightest_10 ?_
    refine x_getI hP fX11_268 (layT ht4) dX11_brightest_13 ?_
    refine x_if_ne hP dX11_brightest_16 (tgt := 22) (by decide) (fun c5 => ?_) (fun c5 => ?_)
    · replace hf := p_f c5 hf
      refine x_aload_n hP dX11_brightest_22 rfl ?_
      refine x_getO hP fX11_73 lay0 (r := 60) rfl dX11_brightest_23 ?_
      obtain ⟨v7, hc6, hf⟩ := b_bd hf
      refine y_cvi hP oX3_lightestCorner lX11_316 [] [] rfl rfl rfl lay60 dX11_brightest_26 (t_X3_lightestCorner (d := d - 1) (by omega) isN_60 hc6) (by omega) ?_
      refine x_istore_n hP (ls2 := [some (.ref 0), some (.int x1), some (.int v7)]) dX11_brightest_29 rfl rfl rfl ?_
      refine x_iload_n hP dX11_brightest_30 rfl ?_
      refine x_if_ne hP dX11_brightest_31 (tgt := 38) (by decide) (fun c8 => ?_) (fun c8 => ?_)
      · replace hf := p_f c8 hf
        refine x_aload_n hP dX11_brightest_38 rfl ?_
        refine x_getO hP fX11_73 lay0 (r := 60) rfl dX11_brightest_39 ?_
        refine x_iload_n hP dX11_brightest_42 rfl ?_
        obtain ⟨v10, hc9, hf⟩ := b_bd hf
        refine y_cvi hP oX3_lightAt lX11_107 [.int v7] [] rfl rfl rfl lay60 dX11_brightest_43 (t_X3_lightAt (d := d - 1) (by omega) isN_60 hc9) (by omega) ?_
        cases hf
        exact x_iret hP rfl dX11_brightest_46
      · replace hf := p_t c8 hf
        refine x_iload_n hP dX11_brightest_34 rfl ?_
        refine x_goto hP dX11_brightest_35 (tgt := 46) (by decide) ?_
        cases hf
        exact x_iret hP rfl dX11_brightest_46
    · replace hf := p_t c5 hf
      refine x_bipush hP dX11_brightest_19 (v := (-2)) rfl ?_
      cases hf
      exact x_iret hP rfl dX11_brightest_21
  · replace hf := p_t c3 hf
    refine x_iconst hP dX11_brightest_7 (v := (-1)) rfl ?_
    cases hf
    exact x_iret hP rfl dX11_brightest_8
def f_X11_glowIn (x1 : Int32) (x2 : Int32) (M : Mem) : Option (Int32 × Mem) :=
  (f_X11_isYoung x1 M).bind fun v2 =>
  if v2 = 0 then
    some ((-1 : Int32), M)
  else
    (f_X11_areHours x2).bind fun v5 =>
    if v5 = 0 then
      some ((-1 : Int32), M)
    else
      (rT M 0 9).bind fun t7 =>
      (f_X0_nightIn 60 x2 (M.1 t7 16) M).bind fun M9 =>
      (ag M9 (38 + 2) 6 x1).bind fun v10 =>
      some (v10, M9)
set_option maxHeartbeats 1000000 in
set_option maxRecDepth 20000 in
theorem t_X11_glowIn {g : GG} {d : Nat} (hd : 7 ≤ d) {x1 : Int32} {x2 : Int32} {M : Mem} {r : Int32} {M' : Mem} (hf : f_X11_glowIn x1 x2 M = some (r, M')) : ExM g d iX11_glowIn [.ref 0, .int x1, .int x2] LAY M (some (.int r), LAY, M') := by
  have hd1 : 1 ≤ d := by omega
  refine ExM.main pnX11 rfl (ls := [some (.ref 0), some (.int x1), some (.int x2)]) rfl ?_
  intro P hP
  rw [f_X11_glowIn] at hf
  refine x_aload_n hP dX11_glowIn_0 rfl ?_
  refine x_iload_n hP dX11_glowIn_1 rfl ?_
  obtain ⟨v2, hc1, hf⟩ := b_bd hf
  refine y_cvi hP oX11_isYoung lX11_139 [.int x1] [] rfl rfl rfl lay0 dX11_glowIn_2 (t_X11_isYoung (d := d - 1) (by omega) hc1) (by omega) ?_
  refine x_if_eq hP dX11_glowIn_5 (tgt := 15) (by decide) (fun c3 => ?_) (fun c3 => ?_)
  · replace hf := p_t c3 hf
    refine x_iconst hP dX11_glowIn_15 (v := (-1)) rfl ?_
    cases hf
    exact x_iret hP rfl dX11_glowIn_16
  · replace hf := p_f c3 hf
    refine x_iload_n hP dX11_glowIn_8 rfl ?_
    obtain ⟨v5, hc4, hf⟩ := b_bd hf
    refine y_csi hP oX11_areHours lX11_224 [.int x2] [] rfl rfl rfl dX11_glowIn_9 (t_X11_areHours (d := d - 1) (by omega) hc4) (by omega) ?_
    refine x_if_ne hP dX11_glowIn_12 (tgt := 17) (by decide) (fun c6 => ?_) (fun c6 => ?_)
    · replace hf := p_f c6 hf
      refine x_aload_n hP dX11_glowIn_17 rfl ?_
      refine x_getO hP fX11_38 lay0 (r := 34) rfl dX11_glowIn_18 ?_
      refine x_aload_n hP dX11_glowIn_21 rfl ?_
      refine x_getO hP fX11_73 lay0 (r := 60) rfl dX11_glowIn_22 ?_
      refine x_iload_n hP dX11_glowIn_25 rfl ?_
      refine x_aload_n hP dX11_glowIn_26 rfl ?_
      obtain ⟨t7, ht7, hrt7, hf⟩ := b_rT hf
      refine x_getM hP fX11_77 lay0 hrt7 dX11_glowIn_27 ?_
      refine x_getI hP fX11_197 (layT ht7) dX11_glowIn_30 ?_
      obtain ⟨M9, hc8, hf⟩ := b_bd hf
      refine y_cvr hP oX0_nightIn lX11_319 [.ref 60, .int x2, .int (M.1 t7 16)] [] rfl rfl rfl lay34 dX11_glowIn_33 (t_X0_nightIn (d := d - 1) (by omega) isN_60 hc8) (by omega) ?_
      refine x_getA hP fX11_151 (layN isN_38) (r := 38 + 2) rfl dX11_glowIn_36 ?_
      refine x_iload_n hP dX11_glowIn_39 rfl ?_
      obtain ⟨v10, hiv10, hv10, hf⟩ := b_ag hf
      refine y_ald hP (layN_2 isN_38) hiv10 hv10 dX11_glowIn_40 ?_
      cases hf
      exact x_iret hP rfl dX11_glowIn_41
    · replace hf := p_t c6 hf
      refine x_iconst hP dX11_glowIn_15 (v := (-1)) rfl ?_
      cases hf
      exact x_iret hP rfl dX11_glowIn_16
def f_X11_then (x1 : Int32) (x2 : Int32) (M : Mem) : Option (Int32 × Mem) :=
  (f_X11_areHours x1).bind fun v2 =>
  if v2 = 0 then
    some ((-1 : Int32), M)
  else
    (f_X11_isEither x2).bind fun v5 =>
    if v5 = 0 then
      some ((-1 : Int32), M)
    else
      (rT M 0 9).bind fun t7 =>
      (f_X0_nightIn 60 x1 (M.1 t7 16) M).bind fun M9 =>
      if x2 = 0 then
        (f_X3_litStreets 38 M9).bind fun v12 =>
        some (v12, M9)
      else
        some (M9.1 38 3, M9)
set_option maxHeartbeats 1000000 in
set_option maxRecDepth 20000 in
theorem t_X11_then {g : GG} {d : Nat} (hd : 7 ≤ d) {x1 : Int32} {x2 : Int32} {M : Mem} {r : Int32} {M' : Mem} (hf : f_X11_then x1 x2 M = some (r, M')) : ExM g d iX11_then [.ref 0, .int x1, .int x2] LAY M (some (.int r), LAY, M') := by
  have hd1 : 1 ≤ d := by omega
  refine ExM.main pnX11 rfl (ls := [some (.ref 0), some (.int x1), some (.int x2), none]) rfl ?_
  intro P hP
  rw [f_X11_then] at hf
  refine x_iload_n hP dX11_then_0 rfl ?_
  obtain ⟨v2, hc1, hf⟩ := b_bd hf
  refine y_csi hP oX11_areHours lX11_224 [.int x1] [] rfl rfl rfl dX11_then_1 (t_X11_areHours (d := d - 1) (by omega) hc1) (by omega) ?_
  refine x_if_eq hP dX11_then_4 (tgt := 14) (by decide) (fun c3 => ?_) (fun c3 => ?_)
  · replace hf := p_t c3 hf
    refine x_iconst hP dX11_then_14 (v := (-1)) rfl ?_
    cases hf
    exact x_iret hP rfl dX11_then_15
  · replace hf := p_f c3 hf
    refine x_iload_n hP dX11_then_7 rfl ?_
    obtain ⟨v5, hc4, hf⟩ := b_bd hf
    refine y_csi hP oX11_isEither lX11_248 [.int x2] [] rfl rfl rfl dX11_then_8 (t_X11_isEither (d := d - 1) (by omega) hc4) (by omega) ?_
    refine x_if_ne hP dX11_then_11 (tgt := 16) (by decide) (fun c6 => ?_) (fun c6 => ?_)
    · replace hf := p_f c6 hf
      refine x_aload_n hP dX11_then_16 rfl ?_
      refine x_getO hP fX11_38 lay0 (r := 34) rfl dX11_then_17 ?_
      refine x_aload_n hP dX11_then_20 rfl ?_
      refine x_getO hP fX11_73 lay0 (r := 60) rfl dX11_then_21 ?_
      refine x_iload_n hP dX11_then_24 rfl ?_
      refine x_aload_n hP dX11_then_25 rfl ?_
      obtain ⟨t7, ht7, hrt7, hf⟩ := b_rT hf
      refine x_getM hP fX11_77 lay0 hrt7 dX11_then_26 ?_
      refine x_getI hP fX11_197 (layT ht7) dX11_then_29 ?_
      obtain ⟨M9, hc8, hf⟩ := b_bd hf
      refine y_cvr hP oX0_nightIn lX11_319 [.ref 60, .int x1, .int (M.1 t7 16)] [] rfl rfl rfl lay34 dX11_then_32 (t_X0_nightIn (d := d - 1) (by omega) isN_60 hc8) (by omega) ?_
      refine x_astore_n hP (ls2 := [some (.ref 0), some (.int x1), some (.int x2), some (.ref 38)]) dX11_then_35 rfl rfl rfl ?_
      refine x_iload_n hP dX11_then_36 rfl ?_
      refine x_if_ne hP dX11_then_37 (tgt := 47) (by decide) (fun c10 => ?_) (fun c10 => ?_)
      · replace hf := p_f c10 hf
        refine x_aload_n hP dX11_then_47 rfl ?_
        refine x_getI hP fX11_323 (layN isN_38) dX11_then_48 ?_
        cases hf
        exact x_iret hP rfl dX11_then_51
      · replace hf := p_t c10 hf
        refine x_aload_n hP dX11_then_40 rfl ?_
        obtain ⟨v12, hc11, hf⟩ := b_bd hf
        refine y_cvi hP oX3_litStreets lX11_278 [] [] rfl rfl rfl (layN isN_38) dX11_then_41 (t_X3_litStreets (d := d - 1) (by omega) isN_38 hc11) (by omega) ?_
        refine x_goto hP dX11_then_44 (tgt := 51) (by decide) ?_
        cases hf
        exact x_iret hP rfl dX11_then_51
    · replace hf := p_t c6 hf
      refine x_iconst hP dX11_then_14 (v := (-1)) rfl ?_
      cases hf
      exact x_iret hP rfl dX11_then_15
def f_X11_year_L34 : Nat → Int32 → Int32 → Int32 → Int32 → Int32 → Mem → Option (Int32 × Mem)
  | 0, _, _, _, _, _, _ => none
  | fu + 1, l1, l2, l3, l4, l5, M =>
    if l3 ≤ l5 then
      some (l4, M)
    else
      (rT M 0 9).bind fun t10 =>
      (f_X0_nightIn 60 l2 ((M.1 t10 16) + l5) M).bind fun M12 =>
      (f_X3_isLit 38 l1 M12).bind fun v14 =>
      if v14 = 0 then
        lt (l5 + 1 : Int32) fun v16 =>
        f_X11_year_L34 fu l1 l2 l3 l4 v16 M12
      else
        lt (l4 + 1 : Int32) fun v17 =>
        lt (l5 + 1 : Int32) fun v18 =>
        f_X11_year_L34 fu l1 l2 l3 v17 v18 M12
def f_X11_year (x1 : Int32) (x2 : Int32) (x3 : Int32) (M : Mem) : Option (Int32 × Mem) :=
  (f_X11_isStreet x1 M).bind fun v2 =>
  if v2 = 0 then
    some ((-1 : Int32), M)
  else
    (f_X11_areHours x2).bind fun v5 =>
    if v5 = 0 then
      some ((-1 : Int32), M)
    else
      if x3 < (1 : Int32) then
        some ((-1 : Int32), M)
      else
        if x3 ≤ (20 : Int32) then
          (f_X11_year_L34 FU x1 x2 x3 (0 : Int32) (0 : Int32) M).bind fun t19 =>
          some (t19.1, t19.2)
        else
          some ((-1 : Int32), M)
set_option maxHeartbeats 1000000 in
set_option maxRecDepth 20000 in
theorem t_X11_year_L34 {g : GG} {d : Nat} {P : PT} {res : Option RS} (hd : 7 ≤ d)  (hP : IsM g iX11_year d res P) : ∀ (fu : Nat) (l1 : Int32) (l2 : Int32) (l3 : Int32) (l4 : Int32) (l5 : Int32) (M : Mem) (t : Int32 × Mem), f_X11_year_L34 fu l1 l2 l3 l4 l5 M = some t → P 78 [none, none, none, none, some (.int t.1), none] [] LAY t.2 → P 34 [some (.ref 0), some (.int l1), some (.int l2), some (.int l3), some (.int l4), some (.int l5)] [] LAY M := by
  have hd1 : 1 ≤ d := by omega
  intro fu
  induction fu with
  | zero => intro l1 l2 l3 l4 l5 M t hf; simp [f_X11_year_L34] at hf
  | succ fu ih =>
    intro l1 l2 l3 l4 l5 M t hf hx
    rw [f_X11_year_L34] at hf
    refine x_iload hP dX11_year_34 rfl ?_
    refine x_iload_n hP dX11_year_36 rfl ?_
    refine x_icmp_ge hP dX11_year_37 (tgt := 78) (by decide) (fun c9 => ?_) (fun c9 => ?_)
    · replace hf := p_t c9 hf
      refine x_drop hP [none, none, none, none, some (.int l4), none] (And.intro rfl trivial) ?_
      cases hf
      exact hx
    · replace hf := p_f c9 hf
      refine x_aload_n hP dX11_year_40 rfl ?_
      refine x_getO hP fX11_38 lay0 (r := 34) rfl dX11_year_41 ?_
      refine x_aload_n hP dX11_year_44 rfl ?_
      refine x_getO hP fX11_73 lay0 (r := 60) rfl dX11_year_45 ?_
      refine x_iload_n hP dX11_year_48 rfl ?_
      refine x_aload_n hP dX11_year_49 rfl ?_
      obtain ⟨t10, ht10, hrt10, hf⟩ := b_rT hf
      refine x_getM hP fX11_77 lay0 hrt10 dX11_year_50 ?_
      refine x_getI hP fX11_197 (layT ht10) dX11_year_53 ?_
      refine x_iload hP dX11_year_56 rfl ?_
      refine x_iadd hP dX11_year_58 ?_
      obtain ⟨M12, hc11, hf⟩ := b_bd hf
      refine y_cvr hP oX0_nightIn lX11_319 [.ref 60, .int l2, .int ((M.1 t10 16) + l5)] [] rfl rfl rfl lay34 dX11_year_59 (t_X0_nightIn (d := d - 1) (by omega) isN_60 hc11) (by omega) ?_
      refine x_iload_n hP dX11_year_62 rfl ?_
      obtain ⟨v14, hc13, hf⟩ := b_bd hf
      refine y_cvi hP oX3_isLit lX11_133 [.int l1] [] rfl rfl rfl (layN isN_38) dX11_year_63 (t_X3_isLit (d := d - 1) (by omega) isN_38 hc13) (by omega) ?_
      refine x_if_eq hP dX11_year_66 (tgt := 72) (by decide) (fun c15 => ?_) (fun c15 => ?_)
      · replace hf := p_t c15 hf
        obtain ⟨v16, hv16, hf⟩ := b_lt hf
        refine x_iinc hP (v := v16) (ls2 := [some (.ref 0), some (.int l1), some (.int l2), some (.int l3), some (.int l4), some (.int v16)]) dX11_year_72 rfl (by rw [hv16]; rfl) rfl rfl ?_
        refine x_goto hP dX11_year_75 (tgt := 34) (by decide) ?_
        refine x_drop hP [some (.ref 0), some (.int l1), some (.int l2), some (.int l3), some (.int l4), some (.int v16)] (And.intro rfl (And.intro rfl (And.intro rfl (And.intro rfl (And.intro rfl (And.intro rfl trivial)))))) ?_
        exact ih _ _ _ _ _ _ _ hf hx
      · replace hf := p_f c15 hf
        obtain ⟨v17, hv17, hf⟩ := b_lt hf
        refine x_iinc hP (v := v17) (ls2 := [some (.ref 0), some (.int l1), some (.int l2), some (.int l3), some (.int v17), some (.int l5)]) dX11_year_69 rfl (by rw [hv17]; rfl) rfl rfl ?_
        obtain ⟨v18, hv18, hf⟩ := b_lt hf
        refine x_iinc hP (v := v18) (ls2 := [some (.ref 0), some (.int l1), some (.int l2), some (.int l3), some (.int v17), some (.int v18)]) dX11_year_72 rfl (by rw [hv18]; rfl) rfl rfl ?_
        refine x_goto hP dX11_year_75 (tgt := 34) (by decide) ?_
        refine x_drop hP [some (.ref 0), some (.int l1), some (.int l2), some (.int l3), some (.int v17), some (.int v18)] (And.intro rfl (And.intro rfl (And.intro rfl (And.intro rfl (And.intro rfl (And.intro rfl trivial)))))) ?_
        exact ih _ _ _ _ _ _ _ hf hx
set_option maxHeartbeats 1000000 in
set_option maxRecDepth 20000 in
theorem t_X11_year {g : GG} {d : Nat} (hd : 7 ≤ d) {x1 : Int32} {x2 : Int32} {x3 : Int32} {M : Mem} {r : Int32} {M' : Mem} (hf : f_X11_year x1 x2 x3 M = some (r, M')) : ExM g d iX11_year [.ref 0, .int x1, .int x2, .int x3] LAY M (some (.int r), LAY, M') := by
  have hd1 : 1 ≤ d := by omega
  refine ExM.main pnX11 rfl (ls := [some (.ref 0), some (.int x1), some (.int x2), some (.int x3), none, none]) rfl ?_
  intro P hP
  rw [f_X11_year] at hf
  refine x_aload_n hP dX11_year_0 rfl ?_
  refine x_iload_n hP dX11_year_1 rfl ?_
  obtain ⟨v2, hc1, hf⟩ := b_bd hf
  refine y_cvi hP oX11_isStreet lX11_120 [.int x1] [] rfl rfl rfl lay0 dX11_year_2 (t_X11_isStreet (d := d - 1) (by omega) hc1) (by omega) ?_
  refine x_if_eq hP dX11_year_5 (tgt := 26) (by decide) (fun c3 => ?_) (fun c3 => ?_)
  · replace hf := p_t c3 hf
    refine x_iconst hP dX11_year_26 (v := (-1)) rfl ?_
    cases hf
    exact x_iret hP rfl dX11_year_27
  · replace hf := p_f c3 hf
    refine x_iload_n hP dX11_year_8 rfl ?_
    obtain ⟨v5, hc4, hf⟩ := b_bd hf
    refine y_csi hP oX11_areHours lX11_224 [.int x2] [] rfl rfl rfl dX11_year_9 (t_X11_areHours (d := d - 1) (by omega) hc4) (by omega) ?_
    refine x_if_eq hP dX11_year_12 (tgt := 26) (by decide) (fun c6 => ?_) (fun c6 => ?_)
    · replace hf := p_t c6 hf
      refine x_iconst hP dX11_year_26 (v := (-1)) rfl ?_
      cases hf
      exact x_iret hP rfl dX11_year_27
    · replace hf := p_f c6 hf
      refine x_iload_n hP dX11_year_15 rfl ?_
      refine x_iconst hP dX11_year_16 (v := 1) rfl ?_
      refine x_icmp_lt hP dX11_year_17 (tgt := 26) (by decide) (fun c7 => ?_) (fun c7 => ?_)
      · replace hf := p_t c7 hf
        refine x_iconst hP dX11_year_26 (v := (-1)) rfl ?_
        cases hf
        exact x_iret hP rfl dX11_year_27
      · replace hf := p_f c7 hf
        refine x_iload_n hP dX11_year_20 rfl ?_
        refine x_bipush hP dX11_year_21 (v := 20) rfl ?_
        refine x_icmp_le hP dX11_year_23 (tgt := 28) (by decide) (fun c8 => ?_) (fun c8 => ?_)
        · replace hf := p_t c8 hf
          refine x_iconst hP dX11_year_28 (v := 0) rfl ?_
          refine x_istore hP (ls2 := [some (.ref 0), some (.int x1), some (.int x2), some (.int x3), some (.int (0 : Int32)), none]) dX11_year_29 rfl rfl ?_
          refine x_iconst hP dX11_year_31 (v := 0) rfl ?_
          refine x_istore hP (ls2 := [some (.ref 0), some (.int x1), some (.int x2), some (.int x3), some (.int (0 : Int32)), some (.int (0 : Int32))]) dX11_year_32 rfl rfl ?_
          refine x_drop hP [some (.ref 0), some (.int x1), some (.int x2), some (.int x3), some (.int (0 : Int32)), some (.int (0 : Int32))] (And.intro rfl (And.intro rfl (And.intro rfl (And.intro rfl (And.intro rfl (And.intro rfl trivial)))))) ?_
          obtain ⟨t19, hl20, hf⟩ := b_bd hf
          refine t_X11_year_L34 hd hP _ _ _ _ _ _ _ _ hl20 ?_
          refine x_iload hP dX11_year_78 rfl ?_
          cases hf
          exact x_iret hP rfl dX11_year_80
        · replace hf := p_f c8 hf
          refine x_iconst hP dX11_year_26 (v := (-1)) rfl ?_
          cases hf
          exact x_iret hP rfl dX11_year_27
def f_X11_isGlow (x0 : Int32) : Option (Int32) :=
  if x0 < 0 then
    some (0 : Int32)
  else
    if (999 : Int32) < x0 then
      some (0 : Int32)
    else
      some (1 : Int32)
set_option maxHeartbeats 1000000 in
set_option maxRecDepth 20000 in
theorem t_X11_isGlow {g : GG} {L : List Lay} {d : Nat} (hd : 1 ≤ d) {x0 : Int32} {M : Mem} {r : Int32} (hf : f_X11_isGlow x0 = some r) : ExM g d iX11_isGlow [.int x0] L M (some (.int r), L, M) := by
  have hd1 : 1 ≤ d := by omega
  refine ExM.main pnX11 rfl (ls := [some (.int x0)]) rfl ?_
  intro P hP
  rw [f_X11_isGlow] at hf
  refine x_iload_n hP dX11_isGlow_0 rfl ?_
  refine x_if_lt hP dX11_isGlow_1 (tgt := 15) (by decide) (fun c1 => ?_) (fun c1 => ?_)
  · replace hf := p_t c1 hf
    refine x_iconst hP dX11_isGlow_15 (v := 0) rfl ?_
    cases hf
    exact x_zret hP rfl (Or.inl rfl) dX11_isGlow_16
  · replace hf := p_f c1 hf
    refine x_iload_n hP dX11_isGlow_4 rfl ?_
    refine x_sipush hP dX11_isGlow_5 (v := 999) rfl ?_
    refine x_icmp_gt hP dX11_isGlow_8 (tgt := 15) (by decide) (fun c2 => ?_) (fun c2 => ?_)
    · replace hf := p_t c2 hf
      refine x_iconst hP dX11_isGlow_15 (v := 0) rfl ?_
      cases hf
      exact x_zret hP rfl (Or.inl rfl) dX11_isGlow_16
    · replace hf := p_f c2 hf
      refine x_iconst hP dX11_isGlow_11 (v := 1) rfl ?_
      refine x_goto hP dX11_isGlow_12 (tgt := 16) (by decide) ?_
      cases hf
      exact x_zret hP rfl (Or.inr rfl) dX11_isGlow_16
def f_X11_tell (x1 : Int32) (x2 : Int32) (x3 : Int32) (M : Mem) : Option (Int32 × Mem) :=
  (f_X11_isOut x1 M).bind fun v2 =>
  if v2 = 0 then
    some ((-1 : Int32), M)
  else
    (f_X11_isGlow x2).bind fun v5 =>
    if v5 = 0 then
      some ((-1 : Int32), M)
    else
      if M.1 53 0 < (20 : Int32) then
        (f_X1_note x1 x2 x3 M).bind fun M9 =>
        some ((M9.1 53 0) - (1 : Int32), M9)
      else
        some ((-1 : Int32), M)
set_option maxHeartbeats 1000000 in
set_option maxRecDepth 20000 in
theorem t_X11_tell {g : GG} {d : Nat} (hd : 3 ≤ d) {x1 : Int32} {x2 : Int32} {x3 : Int32} {M : Mem} {r : Int32} {M' : Mem} (hf : f_X11_tell x1 x2 x3 M = some (r, M')) : ExM g d iX11_tell [.ref 0, .int x1, .int x2, .int x3] LAY M (some (.int r), LAY, M') := by
  have hd1 : 1 ≤ d := by omega
  refine ExM.main pnX11 rfl (ls := [some (.ref 0), some (.int x1), some (.int x2), some (.int x3)]) rfl ?_
  intro P hP
  rw [f_X11_tell] at hf
  refine x_aload_n hP dX11_tell_0 rfl ?_
  refine x_iload_n hP dX11_tell_1 rfl ?_
  obtain ⟨v2, hc1, hf⟩ := b_bd hf
  refine y_cvi hP oX11_isOut lX11_204 [.int x1] [] rfl rfl rfl lay0 dX11_tell_2 (t_X11_isOut (d := d - 1) (by omega) hc1) (by omega) ?_
  refine x_if_eq hP dX11_tell_5 (tgt := 27) (by decide) (fun c3 => ?_) (fun c3 => ?_)
  · replace hf := p_t c3 hf
    refine x_iconst hP dX11_tell_27 (v := (-1)) rfl ?_
    cases hf
    exact x_iret hP rfl dX11_tell_28
  · replace hf := p_f c3 hf
    refine x_iload_n hP dX11_tell_8 rfl ?_
    obtain ⟨v5, hc4, hf⟩ := b_bd hf
    refine y_csi hP oX11_isGlow lX11_326 [.int x2] [] rfl rfl rfl dX11_tell_9 (t_X11_isGlow (d := d - 1) (by omega) hc4) (by omega) ?_
    refine x_if_eq hP dX11_tell_12 (tgt := 27) (by decide) (fun c6 => ?_) (fun c6 => ?_)
    · replace hf := p_t c6 hf
      refine x_iconst hP dX11_tell_27 (v := (-1)) rfl ?_
      cases hf
      exact x_iret hP rfl dX11_tell_28
    · replace hf := p_f c6 hf
      refine x_aload_n hP dX11_tell_15 rfl ?_
      refine x_getO hP fX11_59 lay0 (r := 53) rfl dX11_tell_16 ?_
      refine x_getI hP fX11_329 lay53 dX11_tell_19 ?_
      refine x_bipush hP dX11_tell_22 (v := 20) rfl ?_
      refine x_icmp_lt hP dX11_tell_24 (tgt := 29) (by decide) (fun c7 => ?_) (fun c7 => ?_)
      · replace hf := p_t c7 hf
        refine x_aload_n hP dX11_tell_29 rfl ?_
        refine x_getO hP fX11_59 lay0 (r := 53) rfl dX11_tell_30 ?_
        refine x_iload_n hP dX11_tell_33 rfl ?_
        refine x_iload_n hP dX11_tell_34 rfl ?_
        refine x_iload_n hP dX11_tell_35 rfl ?_
        obtain ⟨M9, hc8, hf⟩ := b_bd hf
        refine y_cvv hP oX1_note lX11_332 [.int x1, .int x2, .int x3] [] rfl rfl rfl lay53 dX11_tell_36 (t_X1_note (d := d - 1) (by omega) hc8) (by omega) ?_
        refine x_aload_n hP dX11_tell_39 rfl ?_
        refine x_getO hP fX11_59 lay0 (r := 53) rfl dX11_tell_40 ?_
        refine x_getI hP fX11_329 lay53 dX11_tell_43 ?_
        refine x_iconst hP dX11_tell_46 (v := 1) rfl ?_
        refine x_isub hP dX11_tell_47 ?_
        cases hf
        exact x_iret hP rfl dX11_tell_48
      · replace hf := p_f c7 hf
        refine x_iconst hP dX11_tell_27 (v := (-1)) rfl ?_
        cases hf
        exact x_iret hP rfl dX11_tell_28
def f_X11_forget (M : Mem) : Option (Int32 × Mem) :=
  lt (M.1 53 0 : Int32) fun v1 =>
  lt (sI M 53 0 (0 : Int32)) fun M2 =>
  some (v1, M2)
set_option maxHeartbeats 1000000 in
set_option maxRecDepth 20000 in
theorem t_X11_forget {g : GG} {d : Nat} (hd : 1 ≤ d) {M : Mem} {r : Int32} {M' : Mem} (hf : f_X11_forget M = some (r, M')) : ExM g d iX11_forget [.ref 0] LAY M (some (.int r), LAY, M') := by
  have hd1 : 1 ≤ d := by omega
  refine ExM.main pnX11 rfl (ls := [some (.ref 0), none]) rfl ?_
  intro P hP
  rw [f_X11_forget] at hf
  refine x_aload_n hP dX11_forget_0 rfl ?_
  refine x_getO hP fX11_59 lay0 (r := 53) rfl dX11_forget_1 ?_
  refine x_getI hP fX11_329 lay53 dX11_forget_4 ?_
  obtain ⟨v1, hv1, hf⟩ := b_lt hf
  refine y_nmI hv1 ?_
  refine x_istore_n hP (ls2 := [some (.ref 0), some (.int v1)]) dX11_forget_7 rfl rfl rfl ?_
  refine x_aload_n hP dX11_forget_8 rfl ?_
  refine x_getO hP fX11_59 lay0 (r := 53) rfl dX11_forget_9 ?_
  refine x_iconst hP dX11_forget_12 (v := 0) rfl ?_
  obtain ⟨M2, hM2, hf⟩ := b_lt hf
  refine y_putI hP fX11_329 lay53 hM2 dX11_forget_13 ?_
  refine x_iload_n hP dX11_forget_16 rfl ?_
  cases hf
  exact x_iret hP rfl dX11_forget_17
def f_X11_isKnown (x1 : Int32) (M : Mem) : Option (Int32) :=
  if x1 < 0 then
    some (0 : Int32)
  else
    if M.1 53 0 < x1 then
      some (0 : Int32)
    else
      some (1 : Int32)
set_option maxHeartbeats 1000000 in
set_option maxRecDepth 20000 in
theorem t_X11_isKnown {g : GG} {d : Nat} (hd : 1 ≤ d) {x1 : Int32} {M : Mem} {r : Int32} (hf : f_X11_isKnown x1 M = some r) : ExM g d iX11_isKnown [.ref 0, .int x1] LAY M (some (.int r), LAY, M) := by
  have hd1 : 1 ≤ d := by omega
  refine ExM.main pnX11 rfl (ls := [some (.ref 0), some (.int x1)]) rfl ?_
  intro P hP
  rw [f_X11_isKnown] at hf
  refine x_iload_n hP dX11_isKnown_0 rfl ?_
  refine x_if_lt hP dX11_isKnown_1 (tgt := 19) (by decide) (fun c1 => ?_) (fun c1 => ?_)
  · replace hf := p_t c1 hf
    refine x_iconst hP dX11_isKnown_19 (v := 0) rfl ?_
    cases hf
    exact x_zret hP rfl (Or.inl rfl) dX11_isKnown_20
  · replace hf := p_f c1 hf
    refine x_iload_n hP dX11_isKnown_4 rfl ?_
    refine x_aload_n hP dX11_isKnown_5 rfl ?_
    refine x_getO hP fX11_59 lay0 (r := 53) rfl dX11_isKnown_6 ?_
    refine x_getI hP fX11_329 lay53 dX11_isKnown_9 ?_
    refine x_icmp_gt hP dX11_isKnown_12 (tgt := 19) (by decide) (fun c2 => ?_) (fun c2 => ?_)
    · replace hf := p_t c2 hf
      refine x_iconst hP dX11_isKnown_19 (v := 0) rfl ?_
      cases hf
      exact x_zret hP rfl (Or.inl rfl) dX11_isKnown_20
    · replace hf := p_f c2 hf
      refine x_iconst hP dX11_isKnown_15 (v := 1) rfl ?_
      refine x_goto hP dX11_isKnown_16 (tgt := 20) (by decide) ?_
      cases hf
      exact x_zret hP rfl (Or.inr rfl) dX11_isKnown_20
def f_X11_words (x1 : Int32) (x2 : Int32) (M : Mem) : Option (Int32 × Mem) :=
  (f_X11_isKnown x1 M).bind fun v2 =>
  if v2 = 0 then
    some ((-1 : Int32), M)
  else
    (f_X11_isEither x2).bind fun v5 =>
    if v5 = 0 then
      some ((-1 : Int32), M)
    else
      (f_X1_fitting 31 60 x1 M).bind fun t8 =>
      if x2 = 0 then
        (f_J6_bitCount_0f7a4 t8.1).bind fun v11 =>
        some (v11, t8.2)
      else
        some (t8.1, t8.2)
set_option maxHeartbeats 1000000 in
set_option maxRecDepth 20000 in
theorem t_X11_words {g : GG} {d : Nat} (hd : 6 ≤ d) {x1 : Int32} {x2 : Int32} {M : Mem} {r : Int32} {M' : Mem} (hf : f_X11_words x1 x2 M = some (r, M')) : ExM g d iX11_words [.ref 0, .int x1, .int x2] LAY M (some (.int r), LAY, M') := by
  have hd1 : 1 ≤ d := by omega
  refine ExM.main pnX11 rfl (ls := [some (.ref 0), some (.int x1), some (.int x2), none]) rfl ?_
  intro P hP
  rw [f_X11_words] at hf
  refine x_aload_n hP dX11_words_0 rfl ?_
  refine x_iload_n hP dX11_words_1 rfl ?_
  obtain ⟨v2, hc1, hf⟩ := b_bd hf
  refine y_cvi hP oX11_isKnown lX11_336 [.int x1] [] rfl rfl rfl lay0 dX11_words_2 (t_X11_isKnown (d := d - 1) (by omega) hc1) (by omega) ?_
  refine x_if_eq hP dX11_words_5 (tgt := 15) (by decide) (fun c3 => ?_) (fun c3 => ?_)
  · replace hf := p_t c3 hf
    refine x_iconst hP dX11_words_15 (v := (-1)) rfl ?_
    cases hf
    exact x_iret hP rfl dX11_words_16
  · replace hf := p_f c3 hf
    refine x_iload_n hP dX11_words_8 rfl ?_
    obtain ⟨v5, hc4, hf⟩ := b_bd hf
    refine y_csi hP oX11_isEither lX11_248 [.int x2] [] rfl rfl rfl dX11_words_9 (t_X11_isEither (d := d - 1) (by omega) hc4) (by omega) ?_
    refine x_if_ne hP dX11_words_12 (tgt := 17) (by decide) (fun c6 => ?_) (fun c6 => ?_)
    · replace hf := p_f c6 hf
      refine x_aload_n hP dX11_words_17 rfl ?_
      refine x_getO hP fX11_59 lay0 (r := 53) rfl dX11_words_18 ?_
      refine x_aload_n hP dX11_words_21 rfl ?_
      refine x_getO hP fX11_31 lay0 (r := 31) rfl dX11_words_22 ?_
      refine x_aload_n hP dX11_words_25 rfl ?_
      refine x_getO hP fX11_73 lay0 (r := 60) rfl dX11_words_26 ?_
      refine x_iload_n hP dX11_words_29 rfl ?_
      obtain ⟨t8, hc7, hf⟩ := b_bd hf
      refine y_cvi hP oX1_fitting lX11_339 [.ref 31, .ref 60, .int x1] [] rfl rfl rfl lay53 dX11_words_30 (t_X1_fitting (d := d - 1) (by omega) isL_31 isN_60 hc7) (by omega) ?_
      refine x_istore_n hP (ls2 := [some (.ref 0), some (.int x1), some (.int x2), some (.int t8.1)]) dX11_words_33 rfl rfl rfl ?_
      refine x_iload_n hP dX11_words_34 rfl ?_
      refine x_if_ne hP dX11_words_35 (tgt := 45) (by decide) (fun c9 => ?_) (fun c9 => ?_)
      · replace hf := p_f c9 hf
        refine x_iload_n hP dX11_words_45 rfl ?_
        cases hf
        exact x_iret hP rfl dX11_words_46
      · replace hf := p_t c9 hf
        refine x_iload_n hP dX11_words_38 rfl ?_
        obtain ⟨v11, hc10, hf⟩ := b_bd hf
        refine y_csi hP oJ6_bitCount_0f7a4 lX11_298 [.int t8.1] [] rfl rfl rfl dX11_words_39 (t_J6_bitCount_0f7a4 (d := d - 1) (by omega) hc10) (by omega) ?_
        refine x_goto hP dX11_words_42 (tgt := 46) (by decide) ?_
        cases hf
        exact x_iret hP rfl dX11_words_46
    · replace hf := p_t c6 hf
      refine x_iconst hP dX11_words_15 (v := (-1)) rfl ?_
      cases hf
      exact x_iret hP rfl dX11_words_16
def f_X11_look (x1 : Int32) (x2 : Int32) (M : Mem) : Option (Int32 × Mem) :=
  (f_X11_isKnown x1 M).bind fun v2 =>
  if v2 = 0 then
    some ((-1 : Int32), M)
  else
    (f_X11_isGlow x2).bind fun v5 =>
    if v5 = 0 then
      some ((-1 : Int32), M)
    else
      (f_X1_fitting 31 60 x1 M).bind fun t8 =>
      if t8.1 = 0 then
        some ((-2 : Int32), t8.2)
      else
        (f_X1_mostTelling 31 60 t8.1 x2 t8.2).bind fun t11 =>
        some (t11.1, t11.2)
set_option maxHeartbeats 1000000 in
set_option maxRecDepth 20000 in
theorem t_X11_look {g : GG} {d : Nat} (hd : 6 ≤ d) {x1 : Int32} {x2 : Int32} {M : Mem} {r : Int32} {M' : Mem} (hf : f_X11_look x1 x2 M = some (r, M')) : ExM g d iX11_look [.ref 0, .int x1, .int x2] LAY M (some (.int r), LAY, M') := by
  have hd1 : 1 ≤ d := by omega
  refine ExM.main pnX11 rfl (ls := [some (.ref 0), some (.int x1), some (.int x2), none]) rfl ?_
  intro P hP
  rw [f_X11_look] at hf
  refine x_aload_n hP dX11_look_0 rfl ?_
  refine x_iload_n hP dX11_look_1 rfl ?_
  obtain ⟨v2, hc1, hf⟩ := b_bd hf
  refine y_cvi hP oX11_isKnown lX11_336 [.int x1] [] rfl rfl rfl lay0 dX11_look_2 (t_X11_isKnown (d := d - 1) (by omega) hc1) (by omega) ?_
  refine x_if_eq hP dX11_look_5 (tgt := 15) (by decide) (fun c3 => ?_) (fun c3 => ?_)
  · replace hf := p_t c3 hf
    refine x_iconst hP dX11_look_15 (v := (-1)) rfl ?_
    cases hf
    exact x_iret hP rfl dX11_look_16
  · replace hf := p_f c3 hf
    refine x_iload_n hP dX11_look_8 rfl ?_
    obtain ⟨v5, hc4, hf⟩ := b_bd hf
    refine y_csi hP oX11_isGlow lX11_326 [.int x2] [] rfl rfl rfl dX11_look_9 (t_X11_isGlow (d := d - 1) (by omega) hc4) (by omega) ?_
    refine x_if_ne hP dX11_look_12 (tgt := 17) (by decide) (fun c6 => ?_) (fun c6 => ?_)
    · replace hf := p_f c6 hf
      refine x_aload_n hP dX11_look_17 rfl ?_
      refine x_getO hP fX11_59 lay0 (r := 53) rfl dX11_look_18 ?_
      refine x_aload_n hP dX11_look_21 rfl ?_
      refine x_getO hP fX11_31 lay0 (r := 31) rfl dX11_look_22 ?_
      refine x_aload_n hP dX11_look_25 rfl ?_
      refine x_getO hP fX11_73 lay0 (r := 60) rfl dX11_look_26 ?_
      refine x_iload_n hP dX11_look_29 rfl ?_
      obtain ⟨t8, hc7, hf⟩ := b_bd hf
      refine y_cvi hP oX1_fitting lX11_339 [.ref 31, .ref 60, .int x1] [] rfl rfl rfl lay53 dX11_look_30 (t_X1_fitting (d := d - 1) (by omega) isL_31 isN_60 hc7) (by omega) ?_
      refine x_istore_n hP (ls2 := [some (.ref 0), some (.int x1), some (.int x2), some (.int t8.1)]) dX11_look_33 rfl rfl rfl ?_
      refine x_iload_n hP dX11_look_34 rfl ?_
      refine x_if_ne hP dX11_look_35 (tgt := 43) (by decide) (fun c9 => ?_) (fun c9 => ?_)
      · replace hf := p_f c9 hf
        refine x_aload_n hP dX11_look_43 rfl ?_
        refine x_getO hP fX11_31 lay0 (r := 31) rfl dX11_look_44 ?_
        refine x_aload_n hP dX11_look_47 rfl ?_
        refine x_getO hP fX11_73 lay0 (r := 60) rfl dX11_look_48 ?_
        refine x_iload_n hP dX11_look_51 rfl ?_
        refine x_iload_n hP dX11_look_52 rfl ?_
        obtain ⟨t11, hc10, hf⟩ := b_bd hf
        refine y_csi hP oX1_mostTelling lX11_343 [.ref 31, .ref 60, .int t8.1, .int x2] [] rfl rfl rfl dX11_look_53 (t_X1_mostTelling (d := d - 1) (by omega) isL_31 isN_60 hc10) (by omega) ?_
        cases hf
        exact x_iret hP rfl dX11_look_56
      · replace hf := p_t c9 hf
        refine x_bipush hP dX11_look_38 (v := (-2)) rfl ?_
        refine x_goto hP dX11_look_40 (tgt := 56) (by decide) ?_
        cases hf
        exact x_iret hP rfl dX11_look_56
    · replace hf := p_t c6 hf
      refine x_iconst hP dX11_look_15 (v := (-1)) rfl ?_
      cases hf
      exact x_iret hP rfl dX11_look_16
def f_X11_hold (x1 : Int32) (M : Mem) : Option (Int32 × Mem) :=
  (f_X4_keepIn x1 60 M).bind fun t2 =>
  zc t2.1 (some (t2.1, t2.2))
set_option maxHeartbeats 1000000 in
set_option maxRecDepth 20000 in
theorem t_X11_hold {g : GG} {d : Nat} (hd : 4 ≤ d) {x1 : Int32} {M : Mem} {r : Int32} {M' : Mem} (hf : f_X11_hold x1 M = some (r, M')) : ExM g d iX11_hold [.ref 0, .int x1] LAY M (some (.int r), LAY, M') := by
  have hd1 : 1 ≤ d := by omega
  refine ExM.main pnX11 rfl (ls := [some (.ref 0), some (.int x1)]) rfl ?_
  intro P hP
  rw [f_X11_hold] at hf
  refine x_aload_n hP dX11_hold_0 rfl ?_
  refine x_getO hP fX11_66 lay0 (r := 57) rfl dX11_hold_1 ?_
  refine x_iload_n hP dX11_hold_4 rfl ?_
  refine x_aload_n hP dX11_hold_5 rfl ?_
  refine x_getO hP fX11_73 lay0 (r := 60) rfl dX11_hold_6 ?_
  obtain ⟨t2, hc1, hf⟩ := b_bd hf
  refine y_cvi hP oX4_keepIn lX11_347 [.int x1, .ref 60] [] rfl rfl rfl lay57 dX11_hold_9 (t_X4_keepIn (d := d - 1) (by omega) isN_60 hc1) (by omega) ?_
  obtain ⟨hz3, hf⟩ := b_zc hf
  cases hf
  exact x_zret hP rfl hz3 dX11_hold_12
def f_X11_restore (x1 : Int32) (M : Mem) : Option (Int32 × Mem) :=
  lt (sI M 48 2 (1 : Int32)) fun M1 =>
  (f_X4_takeFrom x1 60 M1).bind fun t3 =>
  zc t3.1 (some (t3.1, t3.2))
set_option maxHeartbeats 1000000 in
set_option maxRecDepth 20000 in
theorem t_X11_restore {g : GG} {d : Nat} (hd : 4 ≤ d) {x1 : Int32} {M : Mem} {r : Int32} {M' : Mem} (hf : f_X11_restore x1 M = some (r, M')) : ExM g d iX11_restore [.ref 0, .int x1] LAY M (some (.int r), LAY, M') := by
  have hd1 : 1 ≤ d := by omega
  refine ExM.main pnX11 rfl (ls := [some (.ref 0), some (.int x1)]) rfl ?_
  intro P hP
  rw [f_X11_restore] at hf
  refine x_aload_n hP dX11_restore_0 rfl ?_
  refine x_getO hP fX11_52 lay0 (r := 48) rfl dX11_restore_1 ?_
  refine x_iconst hP dX11_restore_4 (v := 1) rfl ?_
  obtain ⟨M1, hM1, hf⟩ := b_lt hf
  refine y_putZ hP fX11_227 (Or.inr rfl) lay48 hM1 dX11_restore_5 ?_
  refine x_aload_n hP dX11_restore_8 rfl ?_
  refine x_getO hP fX11_66 lay0 (r := 57) rfl dX11_restore_9 ?_
  refine x_iload_n hP dX11_restore_12 rfl ?_
  refine x_aload_n hP dX11_restore_13 rfl ?_
  refine x_getO hP fX11_73 lay0 (r := 60) rfl dX11_restore_14 ?_
  obtain ⟨t3, hc2, hf⟩ := b_bd hf
  refine y_cvi hP oX4_takeFrom lX11_351 [.int x1, .ref 60] [] rfl rfl rfl lay57 dX11_restore_17 (t_X4_takeFrom (d := d - 1) (by omega) isN_60 hc2) (by omega) ?_
  obtain ⟨hz4, hf⟩ := b_zc hf
  cases hf
  exact x_zret hP rfl hz4 dX11_restore_20
def f_X11_sumOf_L4 (a0 : Nat) (n0 : Nat) : Nat → Int32 → Int32 → Mem → Option (Int32)
  | 0, _, _, _ => none
  | fu + 1, l1, l2, M =>
    if Int32.ofNat n0 ≤ l2 then
      some l1
    else
      (ag M a0 n0 l2).bind fun v2 =>
      lt (l1 + v2 : Int32) fun v3 =>
      lt (l2 + 1 : Int32) fun v4 =>
      f_X11_sumOf_L4 a0 n0 fu v3 v4 M
def f_X11_sumOf (a0 : Nat) (n0 : Nat) (M : Mem) : Option (Int32) :=
  (f_X11_sumOf_L4 a0 n0 FU (0 : Int32) (0 : Int32) M).bind fun t5 =>
  some t5
set_option maxHeartbeats 1000000 in
set_option maxRecDepth 20000 in
theorem t_X11_sumOf_L4 {g : GG} {d : Nat} {P : PT} {res : Option RS} (hd : 1 ≤ d) {a0 : Nat} {n0 : Nat} (ha0 : LAY[a0]? = some (.inl (.int, n0))) (hP : IsM g iX11_sumOf d res P) : ∀ (fu : Nat) (l1 : Int32) (l2 : Int32) (M : Mem) (t : Int32), f_X11_sumOf_L4 a0 n0 fu l1 l2 M = some t → P 22 [none, some (.int t), none] [] LAY M → P 4 [some (.ref a0), some (.int l1), some (.int l2)] [] LAY M := by
  have hd1 : 1 ≤ d := by omega
  intro fu
  induction fu with
  | zero => intro l1 l2 M t hf; simp [f_X11_sumOf_L4] at hf
  | succ fu ih =>
    intro l1 l2 M t hf hx
    rw [f_X11_sumOf_L4] at hf
    refine x_iload_n hP dX11_sumOf_4 rfl ?_
    refine x_aload_n hP dX11_sumOf_5 rfl ?_
    refine y_alen hP ha0 (v := Int32.ofNat n0) rfl dX11_sumOf_6 ?_
    refine x_icmp_ge hP dX11_sumOf_7 (tgt := 22) (by decide) (fun c1 => ?_) (fun c1 => ?_)
    · replace hf := p_t c1 hf
      refine x_drop hP [none, some (.int l1), none] (And.intro rfl trivial) ?_
      cases hf
      exact hx
    · replace hf := p_f c1 hf
      refine x_iload_n hP dX11_sumOf_10 rfl ?_
      refine x_aload_n hP dX11_sumOf_11 rfl ?_
      refine x_iload_n hP dX11_sumOf_12 rfl ?_
      obtain ⟨v2, hiv2, hv2, hf⟩ := b_ag hf
      refine y_ald hP ha0 hiv2 hv2 dX11_sumOf_13 ?_
      refine x_iadd hP dX11_sumOf_14 ?_
      obtain ⟨v3, hv3, hf⟩ := b_lt hf
      refine y_nmI hv3 ?_
      refine x_istore_n hP (ls2 := [some (.ref a0), some (.int v3), some (.int l2)]) dX11_sumOf_15 rfl rfl rfl ?_
      obtain ⟨v4, hv4, hf⟩ := b_lt hf
      refine x_iinc hP (v := v4) (ls2 := [some (.ref a0), some (.int v3), some (.int v4)]) dX11_sumOf_16 rfl (by rw [hv4]; rfl) rfl rfl ?_
      refine x_goto hP dX11_sumOf_19 (tgt := 4) (by decide) ?_
      refine x_drop hP [some (.ref a0), some (.int v3), some (.int v4)] (And.intro rfl (And.intro rfl (And.intro rfl trivial))) ?_
      exact ih _ _ _ _ hf hx
set_option maxHeartbeats 1000000 in
set_option maxRecDepth 20000 in
theorem t_X11_sumOf {g : GG} {d : Nat} (hd : 1 ≤ d) {a0 : Nat} {n0 : Nat} (ha0 : LAY[a0]? = some (.inl (.int, n0))) {M : Mem} {r : Int32} (hf : f_X11_sumOf a0 n0 M = some r) : ExM g d iX11_sumOf [.ref a0] LAY M (some (.int r), LAY, M) := by
  have hd1 : 1 ≤ d := by omega
  refine ExM.main pnX11 rfl (ls := [some (.ref a0), none, none]) rfl ?_
  intro P hP
  rw [f_X11_sumOf] at hf
  refine x_iconst hP dX11_sumOf_0 (v := 0) rfl ?_
  refine x_istore_n hP (ls2 := [some (.ref a0), some (.int (0 : Int32)), none]) dX11_sumOf_1 rfl rfl rfl ?_
  refine x_iconst hP dX11_sumOf_2 (v := 0) rfl ?_
  refine x_istore_n hP (ls2 := [some (.ref a0), some (.int (0 : Int32)), some (.int (0 : Int32))]) dX11_sumOf_3 rfl rfl rfl ?_
  refine x_drop hP [some (.ref a0), some (.int (0 : Int32)), some (.int (0 : Int32))] (And.intro rfl (And.intro rfl (And.intro rfl trivial))) ?_
  obtain ⟨t5, hl6, hf⟩ := b_bd hf
  refine t_X11_sumOf_L4 hd ha0 hP _ _ _ _ _ hl6 ?_
  refine x_iload_n hP dX11_sumOf_22 rfl ?_
  cases hf
  exact x_iret hP rfl dX11_sumOf_23
def f_X11_count (x1 : Int32) (M : Mem) : Option (Int32) :=
  if x1 = 0 then
    (rT M 0 9).bind fun t2 =>
    some (M.1 t2 10)
  else
  if x1 = 1 then
    (rT M 0 9).bind fun t4 =>
    some (M.1 t4 11)
  else
  if x1 = 2 then
    (rT M 0 9).bind fun t6 =>
    some (M.1 t6 12)
  else
  if x1 = 3 then
    (rT M 0 9).bind fun t8 =>
    some (M.1 t8 13)
  else
  if x1 = 4 then
    some (M.1 60 1)
  else
  if x1 = 5 then
    (rT M 0 9).bind fun t11 =>
    if M.1 t11 10 = 0 then
      some (-2 : Int32)
    else
      some (M.1 60 2)
  else
  if x1 = 6 then
    (f_X3_litStreets 60 M).bind fun v15 =>
    some v15
  else
  if x1 = 7 then
    some (M.1 60 3)
  else
  if x1 = 8 then
    some (M.1 21 1)
  else
  if x1 = 9 then
    some (M.1 57 0)
  else
  if x1 = 10 then
    some (M.1 53 0)
  else
  if x1 = 11 then
    (f_J6_bitCount_0f7a4 (M.1 57 1)).bind fun v22 =>
    some v22
  else
  if x1 = 12 then
    (rT M 0 9).bind fun t24 =>
    (rT M 0 9).bind fun t25 =>
    (f_X0_isDraughty t24 (M.1 60 1) (M.1 t25 16) M).bind fun v27 =>
    if v27 = 0 then
      some (0 : Int32)
    else
      some (1 : Int32)
  else
  if x1 = 13 then
    (f_X11_sumOf 62 6 M).bind fun v31 =>
    some v31
  else
  if x1 = 14 then
    (f_X11_sumOf 65 5 M).bind fun v34 =>
    some v34
  else
  if x1 = 15 then
    (f_X3_cornersInUse 60 M).bind fun v37 =>
    some v37
  else
  if x1 = 16 then
    (f_X11_sumOf 63 6 M).bind fun v40 =>
    some v40
  else
  if x1 = 17 then
    (f_X3_litStreets 60 M).bind fun v43 =>
    (f_J6_bitCount_0f7a4 v43).bind fun v45 =>
    some v45
  else
  if x1 = 18 then
    some (M.1 60 4)
  else
  if x1 = 19 then
    (f_J6_bitCount_0f7a4 (M.1 60 3)).bind fun v49 =>
    some v49
  else
  if x1 = 20 then
    (f_X3_needsOfAll 60 M).bind fun v52 =>
    some v52
  else
  some (-1 : Int32)
set_option maxHeartbeats 1000000 in
set_option maxRecDepth 20000 in
theorem t_X11_count {g : GG} {d : Nat} (hd : 5 ≤ d) {x1 : Int32} {M : Mem} {r : Int32} (hf : f_X11_count x1 M = some r) : ExM g d iX11_count [.ref 0, .int x1] LAY M (some (.int r), LAY, M) := by
  have hd1 : 1 ≤ d := by omega
  refine ExM.main pnX11 rfl (ls := [some (.ref 0), some (.int x1)]) rfl ?_
  intro P hP
  rw [f_X11_count] at hf
  refine x_iload_n hP dX11_count_0 rfl ?_
  by_cases c1 : x1 = 0
  · refine x_tswE hP dX11_count_1 c1 (by decide) (by decide) (off := 99) rfl (tgt := 100) (by decide) ?_
    replace hf := p_t c1 hf
    refine x_aload_n hP dX11_count_100 rfl ?_
    obtain ⟨t2, ht2, hrt2, hf⟩ := b_rT hf
    refine x_getM hP fX11_77 lay0 hrt2 dX11_count_101 ?_
    refine x_getI hP fX11_268 (layT ht2) dX11_count_104 ?_
    cases hf
    exact x_iret hP rfl dX11_count_107
  replace hf := p_f c1 hf
  by_cases c3 : x1 = 1
  · refine x_tswE hP dX11_count_1 c3 (by decide) (by decide) (off := 107) rfl (tgt := 108) (by decide) ?_
    replace hf := p_t c3 hf
    refine x_aload_n hP dX11_count_108 rfl ?_
    obtain ⟨t4, ht4, hrt4, hf⟩ := b_rT hf
    refine x_getM hP fX11_77 lay0 hrt4 dX11_count_109 ?_
    refine x_getI hP fX11_354 (layT ht4) dX11_count_112 ?_
    cases hf
    exact x_iret hP rfl dX11_count_115
  replace hf := p_f c3 hf
  by_cases c5 : x1 = 2
  · refine x_tswE hP dX11_count_1 c5 (by decide) (by decide) (off := 115) rfl (tgt := 116) (by decide) ?_
    replace hf := p_t c5 hf
    refine x_aload_n hP dX11_count_116 rfl ?_
    obtain ⟨t6, ht6, hrt6, hf⟩ := b_rT hf
    refine x_getM hP fX11_77 lay0 hrt6 dX11_count_117 ?_
    refine x_getI hP fX11_357 (layT ht6) dX11_count_120 ?_
    cases hf
    exact x_iret hP rfl dX11_count_123
  replace hf := p_f c5 hf
  by_cases c7 : x1 = 3
  · refine x_tswE hP dX11_count_1 c7 (by decide) (by decide) (off := 123) rfl (tgt := 124) (by decide) ?_
    replace hf := p_t c7 hf
    refine x_aload_n hP dX11_count_124 rfl ?_
    obtain ⟨t8, ht8, hrt8, hf⟩ := b_rT hf
    refine x_getM hP fX11_77 lay0 hrt8 dX11_count_125 ?_
    refine x_getI hP fX11_251 (layT ht8) dX11_count_128 ?_
    cases hf
    exact x_iret hP rfl dX11_count_131
  replace hf := p_f c7 hf
  by_cases c9 : x1 = 4
  · refine x_tswE hP dX11_count_1 c9 (by decide) (by decide) (off := 131) rfl (tgt := 132) (by decide) ?_
    replace hf := p_t c9 hf
    refine x_aload_n hP dX11_count_132 rfl ?_
    refine x_getO hP fX11_73 lay0 (r := 60) rfl dX11_count_133 ?_
    refine x_getI hP fX11_218 lay60 dX11_count_136 ?_
    cases hf
    exact x_iret hP rfl dX11_count_139
  replace hf := p_f c9 hf
  by_cases c10 : x1 = 5
  · refine x_tswE hP dX11_count_1 c10 (by decide) (by decide) (off := 139) rfl (tgt := 140) (by decide) ?_
    replace hf := p_t c10 hf
    refine x_aload_n hP dX11_count_140 rfl ?_
    obtain ⟨t11, ht11, hrt11, hf⟩ := b_rT hf
    refine x_getM hP fX11_77 lay0 hrt11 dX11_count_141 ?_
    refine x_getI hP fX11_268 (layT ht11) dX11_count_144 ?_
    refine x_if_ne hP dX11_count_147 (tgt := 155) (by decide) (fun c12 => ?_) (fun c12 => ?_)
    · replace hf := p_f c12 hf
      refine x_aload_n hP dX11_count_155 rfl ?_
      refine x_getO hP fX11_73 lay0 (r := 60) rfl dX11_count_156 ?_
      refine x_getI hP fX11_114 lay60 dX11_count_159 ?_
      cases hf
      exact x_iret hP rfl dX11_count_162
    · replace hf := p_t c12 hf
      refine x_bipush hP dX11_count_150 (v := (-2)) rfl ?_
      refine x_goto hP dX11_count_152 (tgt := 162) (by decide) ?_
      cases hf
      exact x_iret hP rfl dX11_count_162
  replace hf := p_f c10 hf
  by_cases c13 : x1 = 6
  · refine x_tswE hP dX11_count_1 c13 (by decide) (by decide) (off := 162) rfl (tgt := 163) (by decide) ?_
    replace hf := p_t c13 hf
    refine x_aload_n hP dX11_count_163 rfl ?_
    refine x_getO hP fX11_73 lay0 (r := 60) rfl dX11_count_164 ?_
    obtain ⟨v15, hc14, hf⟩ := b_bd hf
    refine y_cvi hP oX3_litStreets lX11_278 [] [] rfl rfl rfl lay60 dX11_count_167 (t_X3_litStreets (d := d - 1) (by omega) isN_60 hc14) (by omega) ?_
    cases hf
    exact x_iret hP rfl dX11_count_170
  replace hf := p_f c13 hf
  by_cases c16 : x1 = 7
  · refine x_tswE hP dX11_count_1 c16 (by decide) (by decide) (off := 170) rfl (tgt := 171) (by decide) ?_
    replace hf := p_t c16 hf
    refine x_aload_n hP dX11_count_171 rfl ?_
    refine x_getO hP fX11_73 lay0 (r := 60) rfl dX11_count_172 ?_
    refine x_getI hP fX11_323 lay60 dX11_count_175 ?_
    cases hf
    exact x_iret hP rfl dX11_count_178
  replace hf := p_f c16 hf
  by_cases c17 : x1 = 8
  · refine x_tswE hP dX11_count_1 c17 (by decide) (by decide) (off := 178) rfl (tgt := 179) (by decide) ?_
    replace hf := p_t c17 hf
    refine x_aload_n hP dX11_count_179 rfl ?_
    refine x_getO hP fX11_13 lay0 (r := 21) rfl dX11_count_180 ?_
    refine x_getI hP fX11_88 lay21 dX11_count_183 ?_
    cases hf
    exact x_iret hP rfl dX11_count_186
  replace hf := p_f c17 hf
  by_cases c18 : x1 = 9
  · refine x_tswE hP dX11_count_1 c18 (by decide) (by decide) (off := 186) rfl (tgt := 187) (by decide) ?_
    replace hf := p_t c18 hf
    refine x_aload_n hP dX11_count_187 rfl ?_
    refine x_getO hP fX11_66 lay0 (r := 57) rfl dX11_count_188 ?_
    refine x_getI hP fX11_360 lay57 dX11_count_191 ?_
    cases hf
    exact x_iret hP rfl dX11_count_194
  replace hf := p_f c18 hf
  by_cases c19 : x1 = 10
  · refine x_tswE hP dX11_count_1 c19 (by decide) (by decide) (off := 194) rfl (tgt := 195) (by decide) ?_
    replace hf := p_t c19 hf
    refine x_aload_n hP dX11_count_195 rfl ?_
    refine x_getO hP fX11_59 lay0 (r := 53) rfl dX11_count_196 ?_
    refine x_getI hP fX11_329 lay53 dX11_count_199 ?_
    cases hf
    exact x_iret hP rfl dX11_count_202
  replace hf := p_f c19 hf
  by_cases c20 : x1 = 11
  · refine x_tswE hP dX11_count_1 c20 (by decide) (by decide) (off := 202) rfl (tgt := 203) (by decide) ?_
    replace hf := p_t c20 hf
    refine x_aload_n hP dX11_count_203 rfl ?_
    refine x_getO hP fX11_66 lay0 (r := 57) rfl dX11_count_204 ?_
    refine x_getI hP fX11_361 lay57 dX11_count_207 ?_
    obtain ⟨v22, hc21, hf⟩ := b_bd hf
    refine y_csi hP oJ6_bitCount_0f7a4 lX11_298 [.int (M.1 57 1)] [] rfl rfl rfl dX11_count_210 (t_J6_bitCount_0f7a4 (d := d - 1) (by omega) hc21) (by omega) ?_
    cases hf
    exact x_iret hP rfl dX11_count_213
  replace hf := p_f c20 hf
  by_cases c23 : x1 = 12
  · refine x_tswE hP dX11_count_1 c23 (by decide) (by decide) (off := 213) rfl (tgt := 214) (by decide) ?_
    replace hf := p_t c23 hf
    refine x_aload_n hP dX11_count_214 rfl ?_
    obtain ⟨t24, ht24, hrt24, hf⟩ := b_rT hf
    refine x_getM hP fX11_77 lay0 hrt24 dX11_count_215 ?_
    refine x_aload_n hP dX11_count_218 rfl ?_
    refine x_getO hP fX11_73 lay0 (r := 60) rfl dX11_count_219 ?_
    refine x_getI hP fX11_218 lay60 dX11_count_222 ?_
    refine x_aload_n hP dX11_count_225 rfl ?_
    obtain ⟨t25, ht25, hrt25, hf⟩ := b_rT hf
    refine x_getM hP fX11_77 lay0 hrt25 dX11_count_226 ?_
    refine x_getI hP fX11_197 (layT ht25) dX11_count_229 ?_
    obtain ⟨v27, hc26, hf⟩ := b_bd hf
    refine y_csi hP oX0_isDraughty lX11_364 [.ref t24, .int (M.1 60 1), .int (M.1 t25 16)] [] rfl rfl rfl dX11_count_232 (t_X0_isDraughty (d := d - 1) (by omega) ht24 hc26) (by omega) ?_
    refine x_if_eq hP dX11_count_235 (tgt := 242) (by decide) (fun c28 => ?_) (fun c28 => ?_)
    · replace hf := p_t c28 hf
      refine x_iconst hP dX11_count_242 (v := 0) rfl ?_
      cases hf
      exact x_iret hP rfl dX11_count_243
    · replace hf := p_f c28 hf
      refine x_iconst hP dX11_count_238 (v := 1) rfl ?_
      refine x_goto hP dX11_count_239 (tgt := 243) (by decide) ?_
      cases hf
      exact x_iret hP rfl dX11_count_243
  replace hf := p_f c23 hf
  by_cases c29 : x1 = 13
  · refine x_tswE hP dX11_count_1 c29 (by decide) (by decide) (off := 243) rfl (tgt := 244) (by decide) ?_
    replace hf := p_t c29 hf
    refine x_aload_n hP dX11_count_244 rfl ?_
    refine x_getO hP fX11_73 lay0 (r := 60) rfl dX11_count_245 ?_
    refine x_getA hP fX11_151 lay60 (r := 62) rfl dX11_count_248 ?_
    obtain ⟨v31, hc30, hf⟩ := b_bd hf
    refine y_csi hP oX11_sumOf lX11_368 [.ref 62] [] rfl rfl rfl dX11_count_251 (t_X11_sumOf (d := d - 1) (by omega) lay62 hc30) (by omega) ?_
    cases hf
    exact x_iret hP rfl dX11_count_254
  replace hf := p_f c29 hf
  by_cases c32 : x1 = 14
  · refine x_tswE hP dX11_count_1 c32 (by decide) (by decide) (off := 254) rfl (tgt := 255) (by decide) ?_
    replace hf := p_t c32 hf
    refine x_aload_n hP dX11_count_255 rfl ?_
    refine x_getO hP fX11_73 lay0 (r := 60) rfl dX11_count_256 ?_
    refine x_getA hP fX11_177 lay60 (r := 65) rfl dX11_count_259 ?_
    obtain ⟨v34, hc33, hf⟩ := b_bd hf
    refine y_csi hP oX11_sumOf lX11_368 [.ref 65] [] rfl rfl rfl dX11_count_262 (t_X11_sumOf (d := d - 1) (by omega) lay65 hc33) (by omega) ?_
    cases hf
    exact x_iret hP rfl dX11_count_265
  replace hf := p_f c32 hf
  by_cases c35 : x1 = 15
  · refine x_tswE hP dX11_count_1 c35 (by decide) (by decide) (off := 265) rfl (tgt := 266) (by decide) ?_
    replace hf := p_t c35 hf
    refine x_aload_n hP dX11_count_266 rfl ?_
    refine x_getO hP fX11_73 lay0 (r := 60) rfl dX11_count_267 ?_
    obtain ⟨v37, hc36, hf⟩ := b_bd hf
    refine y_cvi hP oX3_cornersInUse lX11_271 [] [] rfl rfl rfl lay60 dX11_count_270 (t_X3_cornersInUse (d := d - 1) (by omega) isN_60 hc36) (by omega) ?_
    cases hf
    exact x_iret hP rfl dX11_count_273
  replace hf := p_f c35 hf
  by_cases c38 : x1 = 16
  · refine x_tswE hP dX11_count_1 c38 (by decide) (by decide) (off := 273) rfl (tgt := 274) (by decide) ?_
    replace hf := p_t c38 hf
    refine x_aload_n hP dX11_count_274 rfl ?_
    refine x_getO hP fX11_73 lay0 (r := 60) rfl dX11_count_275 ?_
    refine x_getA hP fX11_157 lay60 (r := 63) rfl dX11_count_278 ?_
    obtain ⟨v40, hc39, hf⟩ := b_bd hf
    refine y_csi hP oX11_sumOf lX11_368 [.ref 63] [] rfl rfl rfl dX11_count_281 (t_X11_sumOf (d := d - 1) (by omega) lay63 hc39) (by omega) ?_
    cases hf
    exact x_iret hP rfl dX11_count_284
  replace hf := p_f c38 hf
  by_cases c41 : x1 = 17
  · refine x_tswE hP dX11_count_1 c41 (by decide) (by decide) (off := 284) rfl (tgt := 285) (by decide) ?_
    replace hf := p_t c41 hf
    refine x_aload_n hP dX11_count_285 rfl ?_
    refine x_getO hP fX11_73 lay0 (r := 60) rfl dX11_count_286 ?_
    obtain ⟨v43, hc42, hf⟩ := b_bd hf
    refine y_cvi hP oX3_litStreets lX11_278 [] [] rfl rfl rfl lay60 dX11_count_289 (t_X3_litStreets (d := d - 1) (by omega) isN_60 hc42) (by omega) ?_
    obtain ⟨v45, hc44, hf⟩ := b_bd hf
    refine y_csi hP oJ6_bitCount_0f7a4 lX11_298 [.int v43] [] rfl rfl rfl dX11_count_292 (t_J6_bitCount_0f7a4 (d := d - 1) (by omega) hc44) (by omega) ?_
    cases hf
    exact x_iret hP rfl dX11_count_295
  replace hf := p_f c41 hf
  by_cases c46 : x1 = 18
  · refine x_tswE hP dX11_count_1 c46 (by decide) (by decide) (off := 295) rfl (tgt := 296) (by decide) ?_
    replace hf := p_t c46 hf
    refine x_aload_n hP dX11_count_296 rfl ?_
    refine x_getO hP fX11_73 lay0 (r := 60) rfl dX11_count_297 ?_
    refine x_getI hP fX11_163 lay60 dX11_count_300 ?_
    cases hf
    exact x_iret hP rfl dX11_count_303
  replace hf := p_f c46 hf
  by_cases c47 : x1 = 19
  · refine x_tswE hP dX11_count_1 c47 (by decide) (by decide) (off := 303) rfl (tgt := 304) (by decide) ?_
    replace hf := p_t c47 hf
    refine x_aload_n hP dX11_count_304 rfl ?_
    refine x_getO hP fX11_73 lay0 (r := 60) rfl dX11_count_305 ?_
    refine x_getI hP fX11_323 lay60 dX11_count_308 ?_
    obtain ⟨v49, hc48, hf⟩ := b_bd hf
    refine y_csi hP oJ6_bitCount_0f7a4 lX11_298 [.int (M.1 60 3)] [] rfl rfl rfl dX11_count_311 (t_J6_bitCount_0f7a4 (d := d - 1) (by omega) hc48) (by omega) ?_
    cases hf
    exact x_iret hP rfl dX11_count_314
  replace hf := p_f c47 hf
  by_cases c50 : x1 = 20
  · refine x_tswE hP dX11_count_1 c50 (by decide) (by decide) (off := 314) rfl (tgt := 315) (by decide) ?_
    replace hf := p_t c50 hf
    refine x_aload_n hP dX11_count_315 rfl ?_
    refine x_getO hP fX11_73 lay0 (r := 60) rfl dX11_count_316 ?_
    obtain ⟨v52, hc51, hf⟩ := b_bd hf
    refine y_cvi hP oX3_needsOfAll lX11_372 [] [] rfl rfl rfl lay60 dX11_count_319 (t_X3_needsOfAll (d := d - 1) (by omega) isN_60 hc51) (by omega) ?_
    cases hf
    exact x_iret hP rfl dX11_count_322
  replace hf := p_f c50 hf
  refine x_tswD hP dX11_count_1 [0, 1, 2, 3, 4, 5, 6, 7, 8, 9, 10, 11, 12, 13, 14, 15, 16, 17, 18, 19, 20] (And.intro (neI c1) (And.intro (neI c3) (And.intro (neI c5) (And.intro (neI c7) (And.intro (neI c9) (And.intro (neI c10) (And.intro (neI c13) (And.intro (neI c16) (And.intro (neI c17) (And.intro (neI c18) (And.intro (neI c19) (And.intro (neI c20) (And.intro (neI c23) (And.intro (neI c29) (And.intro (neI c32) (And.intro (neI c35) (And.intro (neI c38) (And.intro (neI c41) (And.intro (neI c46) (And.intro (neI c47) (And.intro (neI c50) trivial))))))))))))))))))))) (by decide) (by decide) (tgt := 323) (by decide) ?_
  refine x_iconst hP dX11_count_323 (v := (-1)) rfl ?_
  cases hf
  exact x_iret hP rfl dX11_count_324

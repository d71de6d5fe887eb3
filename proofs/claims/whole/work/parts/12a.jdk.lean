-- by program: wip/whole/gen/build_parts.py
def f_J6_bitCount_0f7a4 (x0 : Int32) : Option (Int32) :=
  lt (x0 - (((x0.toUInt32 >>> ((1 : Int32).toUInt32 &&& Int32.toUInt32 31)).toInt32) &&& (1431655765 : Int32)) : Int32) fun v1 =>
  lt ((v1 &&& (858993459 : Int32)) + (((v1.toUInt32 >>> ((2 : Int32).toUInt32 &&& Int32.toUInt32 31)).toInt32) &&& (858993459 : Int32)) : Int32) fun v2 =>
  lt ((v2 + ((v2.toUInt32 >>> ((4 : Int32).toUInt32 &&& Int32.toUInt32 31)).toInt32)) &&& (252645135 : Int32) : Int32) fun v3 =>
  lt (v3 + ((v3.toUInt32 >>> ((8 : Int32).toUInt32 &&& Int32.toUInt32 31)).toInt32) : Int32) fun v4 =>
  lt (v4 + ((v4.toUInt32 >>> ((16 : Int32).toUInt32 &&& Int32.toUInt32 31)).toInt32) : Int32) fun v5 =>
  some (v5 &&& (63 : Int32))
set_option maxHeartbeats 1000000 in
set_option maxRecDepth 20000 in
theorem t_J6_bitCount_0f7a4 {g : GG} {L : List Lay} {d : Nat} (hd : 1 ≤ d) {x0 : Int32} {M : Mem} {r : Int32} (hf : f_J6_bitCount_0f7a4 x0 = some r) : ExM g d iJ6_bitCount_0f7a4 [.int x0] L M (some (.int r), L, M) := by
  have hd1 : 1 ≤ d := by omega
  refine ExM.main pnJ6 rfl (ls := [some (.int x0)]) rfl ?_
  intro P hP
  rw [f_J6_bitCount_0f7a4] at hf
  refine x_iload_n hP dJ6_bitCount_0f7a4_0 rfl ?_
  refine x_iload_n hP dJ6_bitCount_0f7a4_1 rfl ?_
  refine x_iconst hP dJ6_bitCount_0f7a4_2 (v := 1) rfl ?_
  refine x_iushr hP dJ6_bitCount_0f7a4_3 ?_
  refine x_ldc_w hP dJ6_bitCount_0f7a4_4 qJ6_265 ?_
  refine x_iand hP dJ6_bitCount_0f7a4_7 ?_
  refine x_isub hP dJ6_bitCount_0f7a4_8 ?_
  obtain ⟨v1, hv1, hf⟩ := b_lt hf
  refine y_nmI hv1 ?_
  refine x_istore_n hP (ls2 := [some (.int v1)]) dJ6_bitCount_0f7a4_9 rfl rfl rfl ?_
  refine x_iload_n hP dJ6_bitCount_0f7a4_10 rfl ?_
  refine x_ldc_w hP dJ6_bitCount_0f7a4_11 qJ6_266 ?_
  refine x_iand hP dJ6_bitCount_0f7a4_14 ?_
  refine x_iload_n hP dJ6_bitCount_0f7a4_15 rfl ?_
  refine x_iconst hP dJ6_bitCount_0f7a4_16 (v := 2) rfl ?_
  refine x_iushr hP dJ6_bitCount_0f7a4_17 ?_
  refine x_ldc_w hP dJ6_bitCount_0f7a4_18 qJ6_266 ?_
  refine x_iand hP dJ6_bitCount_0f7a4_21 ?_
  refine x_iadd hP dJ6_bitCount_0f7a4_22 ?_
  obtain ⟨v2, hv2, hf⟩ := b_lt hf
  refine y_nmI hv2 ?_
  refine x_istore_n hP (ls2 := [some (.int v2)]) dJ6_bitCount_0f7a4_23 rfl rfl rfl ?_
  refine x_iload_n hP dJ6_bitCount_0f7a4_24 rfl ?_
  refine x_iload_n hP dJ6_bitCount_0f7a4_25 rfl ?_
  refine x_iconst hP dJ6_bitCount_0f7a4_26 (v := 4) rfl ?_
  refine x_iushr hP dJ6_bitCount_0f7a4_27 ?_
  refine x_iadd hP dJ6_bitCount_0f7a4_28 ?_
  refine x_ldc_w hP dJ6_bitCount_0f7a4_29 qJ6_267 ?_
  refine x_iand hP dJ6_bitCount_0f7a4_32 ?_
  obtain ⟨v3, hv3, hf⟩ := b_lt hf
  refine y_nmI hv3 ?_
  refine x_istore_n hP (ls2 := [some (.int v3)]) dJ6_bitCount_0f7a4_33 rfl rfl rfl ?_
  refine x_iload_n hP dJ6_bitCount_0f7a4_34 rfl ?_
  refine x_iload_n hP dJ6_bitCount_0f7a4_35 rfl ?_
  refine x_bipush hP dJ6_bitCount_0f7a4_36 (v := 8) rfl ?_
  refine x_iushr hP dJ6_bitCount_0f7a4_38 ?_
  refine x_iadd hP dJ6_bitCount_0f7a4_39 ?_
  obtain ⟨v4, hv4, hf⟩ := b_lt hf
  refine y_nmI hv4 ?_
  refine x_istore_n hP (ls2 := [some (.int v4)]) dJ6_bitCount_0f7a4_40 rfl rfl rfl ?_
  refine x_iload_n hP dJ6_bitCount_0f7a4_41 rfl ?_
  refine x_iload_n hP dJ6_bitCount_0f7a4_42 rfl ?_
  refine x_bipush hP dJ6_bitCount_0f7a4_43 (v := 16) rfl ?_
  refine x_iushr hP dJ6_bitCount_0f7a4_45 ?_
  refine x_iadd hP dJ6_bitCount_0f7a4_46 ?_
  obtain ⟨v5, hv5, hf⟩ := b_lt hf
  refine y_nmI hv5 ?_
  refine x_istore_n hP (ls2 := [some (.int v5)]) dJ6_bitCount_0f7a4_47 rfl rfl rfl ?_
  refine x_iload_n hP dJ6_bitCount_0f7a4_48 rfl ?_
  refine x_bipush hP dJ6_bitCount_0f7a4_49 (v := 63) rfl ?_
  refine x_iand hP dJ6_bitCount_0f7a4_51 ?_
  cases hf
  exact x_iret hP rfl dJ6_bitCount_0f7a4_52

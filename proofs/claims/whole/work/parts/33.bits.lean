-- 33.bits: pure: bits counted, lots, draughts, corners in use
def popN (a : Nat) : Nat := sumN (fun i => if a.testBit i then 1 else 0) 10
theorem r_bits {a : Nat} (ha : a < 1024) : f_X12_bits (nI a) = some (nI (popN a)) := by
  have key : f_X12_bits_L4 FU (nI a) 0 0 = some (nI (popN a)) := by
    refine loop0 (fun fu y => f_X12_bits_L4 fu (nI a) (nI (sumN (fun i => if a.testBit i then 1 else 0) y)) (nI y)) _ 10 (by omega) (fun fu => ?_) (fun fu y hy => ?_)
    · show f_X12_bits_L4 (fu + 1) _ _ _ = _
      rw [f_X12_bits_L4, li 10, if_pos (nI_le (Nat.le_refl _) (by omega))]
      rfl
    · show f_X12_bits_L4 (fu + 1) _ _ _ = f_X12_bits_L4 fu _ _ _
      rw [f_X12_bits_L4, li 10, if_neg (nI_ge hy (by omega)), bit_n (by omega) (by omega), lt_def, lt_def, nI_1, sumN_s]
      have e : (if a.testBit y then (1 : Int32) else 0) = nI (if a.testBit y then 1 else 0) := by cases a.testBit y <;> rfl
      rw [e, nI_add]
  unfold f_X12_bits
  rw [key]
  rfl
theorem c_bits {a : Nat} (ha : a < 1024) : f_J6_bitCount_0f7a4 (nI a) = some (nI (popN a)) := by
  have h : ∀ a, a < 1024 → f_J6_bitCount_0f7a4 (nI a) = some (nI (popN a)) := by decide +kernel
  exact h a ha
def mixV (a b : Int32) : Int32 := (((a ^^^ b) * 1103515245) + 12345) ^^^ ((((a ^^^ b) * 1103515245) + 12345).toUInt32 >>> ((15 : Int32).toUInt32 &&& Int32.toUInt32 31)).toInt32
theorem stir_e (a b : Int32) : f_X0_stir a b = some (mixV a b) := rfl
theorem mixed_e (a b : Int32) : f_X12_mixed a b = some (mixV a b) := rfl
/-- the lot of a seed and a place -/
def lotV (sd x n : Int32) : Int32 := (rm (((mixV (mixV sd 175) x).toUInt32 >>> ((1 : Int32).toUInt32 &&& Int32.toUInt32 31)).toInt32) n).getD 0
theorem rm_some {a n : Int32} (hn : 0 < n) : rm a n = some ((rm a n).getD 0) := by
  have h0 : ¬ n = 0 := fun z => by subst z; revert hn; decide
  unfold rm
  rw [if_neg h0]
  rfl
theorem c_lot {sd x n : Int32} (hn : 0 < n) : f_X0_lot n sd x = some (lotV sd x n) := by
  unfold f_X0_lot
  rw [stir_e, sb, stir_e, sb, if_pos hn, rm_some hn, sb]
  rfl
theorem r_lot {M : Mem} {x n : Int32} (hn : 0 < n) : f_X12_lotOf x n M = some (lotV (M.1 67 55) x n) := by
  unfold f_X12_lotOf
  rw [mixed_e, sb, mixed_e, sb, rm_some hn, sb]
  rfl
def useB (τ : Nat → Nat → Nat) (ρ : Nat → Nat) (n c : Nat) : Bool := (List.range n).any (fun y => ρ y == c && ρ (12 + y) == 0)
section USE
variable {t v n : Nat} {τ : Nat → Nat → Nat} {ρ : Nat → Nat} {M : Mem}
theorem use_s {y : Nat} (c : Nat) : useB τ ρ (y + 1) c = (useB τ ρ y c || (ρ y == c && ρ (12 + y) == 0)) := by
  unfold useB
  rw [List.range_succ, List.any_append]
  simp
theorem c_use (hw : wfT τ) (hT : TC t τ M) (hN : NC n t τ ρ M) (wn : wfN τ ρ) : f_X3_cornersInUse n M = some (nI (mskN (useB τ ρ (tY τ)) 7)) := by
  have hY : tY τ ≤ 6 := hw.2.2.1
  have hC : tC τ ≤ 7 := hw.1
  have key : f_X3_cornersInUse_L4 n FU 0 0 M = some (nI (mskN (useB τ ρ (tY τ)) 7)) := by
    refine loop0 (fun fu y => f_X3_cornersInUse_L4 n fu (nI (mskN (useB τ ρ y) 7)) (nI y) M) _ (tY τ) (by omega) (fun fu => ?_) (fun fu y hy => ?_)
    · show f_X3_cornersInUse_L4 n (fu + 1) _ _ M = _
      rw [f_X3_cornersInUse_L4, rT_n hN.2.1 hT.1, sb, hT.2.2.2.1, if_pos (nI_le (Nat.le_refl _) (by omega))]
    · show f_X3_cornersInUse_L4 n (fu + 1) _ _ M = f_X3_cornersInUse_L4 n fu _ _ M
      have ha := wn.1 y hy
      have hb := (wn.2.1 y (by omega)).2.1
      rw [f_X3_cornersInUse_L4, rT_n hN.2.1 hT.1, sb, hT.2.2.2.1, if_neg (nI_ge hy (by omega)), c_home hN wn (by omega), sb]
      by_cases h : ρ (12 + y) = 0
      · rw [show hmB ρ y = false by simp [hmB, h], if_neg Bool.false_ne_true, if_pos rfl, ag_n (by omega) (by omega), sb, hN.2.2.2.2.2.2.1 y hy, lt_def, lt_def, nI_1, sh1 (by omega), or_n, msk_set (by omega)]
        have e : mskN (fun k => useB τ ρ y k || k == ρ y) 7 = mskN (useB τ ρ (y + 1)) 7 := mskN_cong (fun k hk => by
          rw [use_s, h]
          by_cases hq : k = ρ y
          · simp [hq]
          · have h1 : (k == ρ y) = false := beq_eq_false_iff_ne.mpr hq
            have h2 : (ρ y == k) = false := beq_eq_false_iff_ne.mpr (Ne.symm hq)
            simp [h1, h2])
        rw [e]
      · have h1 : ρ (12 + y) = 1 := by omega
        have e : mskN (useB τ ρ (y + 1)) 7 = mskN (useB τ ρ y) 7 := mskN_cong (fun k hk => by rw [use_s, h1]; simp)
        rw [show hmB ρ y = true by simp [hmB, h1], if_pos rfl, if_neg ne10, lt_def, nI_1, e]
  unfold f_X3_cornersInUse
  rw [key]
  rfl
end USE

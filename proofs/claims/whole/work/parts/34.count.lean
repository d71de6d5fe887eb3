-- 34.count: pure: count
section CNT
variable {t v : Nat} {τ : Nat → Nat → Nat} {ρ : Nat → Nat} {M : Mem}
theorem use_e (c : Nat) : ∀ n, useB τ ρ n c = !(mskN (whoB ρ c) n == 0)
  | 0 => rfl
  | n + 1 => by
    rw [use_s, use_e c n, mskN_s]
    have hp : 0 < 2 ^ n := Nat.two_pow_pos n
    have e : (ρ n == c && ρ (12 + n) == 0) = whoB ρ c n := rfl
    rw [e]
    cases whoB ρ c n
    · simp
    · have : (mskN (whoB ρ c) n + 2 ^ n == 0) = false := beq_eq_false_iff_ne.mpr (by omega)
      simp [this]
theorem r_use (hw : wfT τ) (hT : TR v τ M) (hN : NR 104 τ ρ M) (wn : wfN τ ρ) : f_X12_count_L262 FU 0 0 M = some (nI (mskN (useB τ ρ (tY τ)) 7)) := by
  have hY : tY τ ≤ 6 := hw.2.2.1
  have hC : tC τ ≤ 7 := hw.1
  have hv : v ≤ 1 := hT.1
  have e7 : mskN (useB τ ρ (tY τ)) 7 = mskN (useB τ ρ (tY τ)) (tC τ) := by
    apply Nat.eq_of_testBit_eq
    intro j
    rw [mskN_bit, mskN_bit]
    by_cases h1 : j < tC τ
    · simp [h1, show j < 7 by omega]
    · have h2 : useB τ ρ (tY τ) j = false := by
        unfold useB
        rw [List.any_eq_false]
        intro y hy
        have := wn.1 y (List.mem_range.mp hy)
        have h3 : (ρ y == j) = false := beq_eq_false_iff_ne.mpr (by omega)
        simp [h3]
      simp [h1, h2]
  rw [e7]
  refine loop0 (fun fu y => f_X12_count_L262 fu (nI (mskN (useB τ ρ (tY τ)) y)) (nI y) M) _ (tC τ) (by omega) (fun fu => ?_) (fun fu y hy => ?_)
  · show f_X12_count_L262 (fu + 1) _ _ M = _
    rw [f_X12_count_L262, hT.2.1, ag_n (by omega) (by omega), sb, hT.2.2.1, if_pos (nI_le (Nat.le_refl _) (by omega))]
  · show f_X12_count_L262 (fu + 1) _ _ M = f_X12_count_L262 fu _ _ M
    have hwl : whoN τ ρ y < 2 ^ 6 := Nat.lt_of_lt_of_le (mskN_lt _ _) (Nat.pow_le_pow_right (by decide) hY)
    rw [f_X12_count_L262, hT.2.1, ag_n (by omega) (by omega), sb, hT.2.2.1, if_neg (nI_ge hy (by omega)), r_who hw hT hN wn (by omega), sb, mskN_s, use_e]
    by_cases h : whoN τ ρ y = 0
    · have h' : mskN (whoB ρ y) (tY τ) = 0 := h
      rw [h, if_pos nI_0, h', lt_def, nI_1]
      rfl
    · have h' : (mskN (whoB ρ y) (tY τ) == 0) = false := beq_eq_false_iff_ne.mpr h
      rw [if_neg (nI_ne0 (by omega) (by omega)), h', lt_def, lt_def, nI_1, msk_or (by omega)]
      rfl
theorem r_rouges (hw : wfT τ) (hT : TR v τ M) (hN : NR 104 τ ρ M) (wn : wfN τ ρ) : f_X12_count_L316 FU 0 0 M = some (nI (mskN (rgB ρ) (tY τ))) := by
  have hY : tY τ ≤ 6 := hw.2.2.1
  have hv : v ≤ 1 := hT.1
  refine loop0 (fun fu y => f_X12_count_L316 fu (nI (mskN (rgB ρ) y)) (nI y) M) _ (tY τ) (by omega) (fun fu => ?_) (fun fu y hy => ?_)
  · show f_X12_count_L316 (fu + 1) _ _ M = _
    rw [f_X12_count_L316, hT.2.1, ag_n (by omega) (by omega), sb, hT.2.2.2.2.1, if_pos (nI_le (Nat.le_refl _) (by omega))]
  · show f_X12_count_L316 (fu + 1) _ _ M = f_X12_count_L316 fu _ _ M
    have hb := (wn.2.1 y (by omega)).2.2.1
    rw [f_X12_count_L316, hT.2.1, ag_n (by omega) (by omega), sb, hT.2.2.2.2.1, if_neg (nI_ge hy (by omega)), li 30, nI_add, ag_n (by omega) (by omega), sb, hN.1 (30 + y) (by omega) (by omega), lt_def, lt_def, nI_1, mskN_s]
    by_cases h : ρ (30 + y) = 1
    · rw [show rgB ρ y = true by simp [rgB, h], h, ← li 1, msk_or (by omega)]
      rfl
    · have h0 : ρ (30 + y) = 0 := by omega
      have z : ∀ y, y < 6 → nI 0 <<< (nI y &&& 31) = nI 0 := by decide +kernel
      rw [show rgB ρ y = false by simp [rgB, h0], h0, z y (by omega), or_n, Nat.or_zero]
      rfl
theorem r_needs (hw : wfT τ) (hT : TR v τ M) (hN : NR 104 τ ρ M) (wn : wfN τ ρ) : f_X12_count_L361 FU 0 0 M = some (nI (sumN (need τ ρ) (tS τ))) := by
  have hS : tS τ ≤ 10 := hw.2.1
  have hv : v ≤ 1 := hT.1
  refine loop0 (fun fu y => f_X12_count_L361 fu (nI (sumN (need τ ρ) y)) (nI y) M) _ (tS τ) (by omega) (fun fu => ?_) (fun fu y hy => ?_)
  · show f_X12_count_L361 (fu + 1) _ _ M = _
    rw [f_X12_count_L361, hT.2.1, ag_n (by omega) (by omega), sb, hT.2.2.2.1, if_pos (nI_le (Nat.le_refl _) (by omega))]
  · show f_X12_count_L361 (fu + 1) _ _ M = f_X12_count_L361 fu _ _ M
    rw [f_X12_count_L361, hT.2.1, ag_n (by omega) (by omega), sb, hT.2.2.2.1, if_neg (nI_ge hy (by omega)), r_need hw hT hN wn hy, sb, lt_def, lt_def, nI_1, nI_add, sumN_s]
end CNT

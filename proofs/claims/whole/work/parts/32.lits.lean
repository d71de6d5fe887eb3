-- 32.lits: pure: lit streets, sums, bits, draughts
theorem FrM.wr {S : List Nat} {M : Mem} {a l n : Nat} {B : Nat → Int32} (ha : a ∈ S) (h67 : a ≠ 67) : FrM S M (wrM M a l B n) := ⟨fun c hc _ => wr_cell (fun z => hc (z ▸ ha)), fun k _ _ _ => by rw [wr_cell (Ne.symm h67)], rfl⟩
section LITS
variable {v : Nat} {τ : Nat → Nat → Nat} {ρ : Nat → Nat} {M : Mem}
theorem r_lits (hw : wfT τ) (hT : TR v τ M) (hN : NR 104 τ ρ M) (wn : wfN τ ρ) : ∃ M', f_X12_litBits M = some (nI (litN τ ρ), M') ∧ FrM [107] M M' := by
  have hS : tS τ ≤ 10 := hw.2.1
  have hC : tC τ ≤ 7 := hw.1
  have hv : v ≤ 1 := hT.1
  let B : Nat → Int32 := fun c => nI (lgt τ ρ c)
  have T : ∀ n, TR v τ (wrM M 107 0 B n) := fun n => hT.fr (FrM.wr (S := [107]) (by decide) (by decide)) (by decide)
  have N : ∀ n, NR 104 τ ρ (wrM M 107 0 B n) := fun n => hN.fr (FrM.wr (S := [107]) (by decide) (by decide)) (by decide) (by decide)
  have k1 : f_X12_litBits_L2 FU 0 M = some (wrM M 107 0 B (tC τ)) := by
    have h := loop0 (fun fu y => f_X12_litBits_L2 fu (nI y) (wrM M 107 0 B y)) (some (wrM M 107 0 B (tC τ))) (tC τ) (by omega) (fun fu => ?_) (fun fu y hy => ?_)
    · rw [wr_0] at h
      exact h
    · show f_X12_litBits_L2 (fu + 1) _ _ = _
      rw [f_X12_litBits_L2, (T _).2.1, ag_n (by omega) (by omega), sb, (T _).2.2.1, if_pos (nI_le (Nat.le_refl _) (by omega))]
    · show f_X12_litBits_L2 (fu + 1) _ _ = f_X12_litBits_L2 fu _ _
      have e := wr_s (M := M) (a := 107) (l := 0) (n := y) (B := B)
      rw [Nat.zero_add] at e
      rw [f_X12_litBits_L2, (T _).2.1, ag_n (by omega) (by omega), sb, (T _).2.2.1, if_neg (nI_ge hy (by omega)), r_light hw (T y) (N y) wn (by omega), sb, pg_n (by omega) (by omega), sb, lt_def, nI_1, ← e]
  have k2 : f_X12_litBits_L36 FU 0 0 (wrM M 107 0 B (tC τ)) = some (nI (litN τ ρ)) := by
    have TT := T (tC τ)
    have BB : ∀ c, c < tC τ → (wrM M 107 0 B (tC τ)).1 107 c = nI (lgt τ ρ c) := fun c hc => by
      have := wr_at (M := M) (a := 107) (l := 0) (B := B) hc
      rw [Nat.zero_add] at this
      exact this
    generalize wrM M 107 0 B (tC τ) = Q at TT BB
    refine loop0 (fun fu y => f_X12_litBits_L36 fu (nI (mskN (litB τ ρ) y)) (nI y) Q) _ (tS τ) (by omega) (fun fu => ?_) (fun fu y hy => ?_)
    · show f_X12_litBits_L36 (fu + 1) _ _ _ = _
      rw [f_X12_litBits_L36, TT.2.1, ag_n (by omega) (by omega), sb, TT.2.2.2.1, if_pos (nI_le (Nat.le_refl _) (by omega))]
      rfl
    · show f_X12_litBits_L36 (fu + 1) _ _ _ = f_X12_litBits_L36 fu _ _ _
      obtain ⟨h1, h2, h3⟩ := TT.2.2.2.2.2.2.2.2.1 y hy
      obtain ⟨q1, q2, -, q3, q4⟩ := hw.2.2.2.2.2.2 y hy
      have l1 := lgt_le hw wn (τ 1 y)
      have l2 := lgt_le hw wn (τ 2 y)
      rw [f_X12_litBits_L36, TT.2.1, ag_n (by omega) (by omega), sb, TT.2.2.2.1, if_neg (nI_ge hy (by omega)), li 10, pk_mul, nI_add, ag_n (by omega) (by omega), sb, h1, ag_n (by omega) (by omega), sb, BB _ q1, ag_n (by omega) (by omega), sb, h2, ag_n (by omega) (by omega), sb, BB _ q2, ag_n (by omega) (by omega), sb, h3, nI_add, mskN_s]
      by_cases hl : lgt τ ρ (τ 1 y) + lgt τ ρ (τ 2 y) < τ 3 y
      · have e : litB τ ρ y = false := by
          unfold litB need
          exact beq_eq_false_iff_ne.mpr (by omega)
        rw [if_pos (nI_lt' hl (by omega)), e, lt_def, nI_1]
        rfl
      · have e : litB τ ρ y = true := by
          unfold litB need
          exact beq_iff_eq.mpr (by omega)
        rw [if_neg (nI_nlt' (nI_le (by omega) (by omega))), e, lt_def, lt_def, nI_1, msk_or (by omega)]
        rfl
  refine ⟨wrM M 107 0 B (tC τ), ?_, FrM.wr (by decide) (by decide)⟩
  unfold f_X12_litBits
  rw [k1, sb, k2, sb]
theorem r_homes (hw : wfT τ) (hT : TR v τ M) (hN : NR 104 τ ρ M) (wn : wfN τ ρ) : f_X12_homeBits M = some (nI (mskN (hmB ρ) (tY τ))) := by
  have hY : tY τ ≤ 6 := hw.2.2.1
  have hv : v ≤ 1 := hT.1
  have key : f_X12_homeBits_L4 FU 0 0 M = some (nI (mskN (hmB ρ) (tY τ))) := by
    refine loop0 (fun fu y => f_X12_homeBits_L4 fu (nI (mskN (hmB ρ) y)) (nI y) M) _ (tY τ) (by omega) (fun fu => ?_) (fun fu y hy => ?_)
    · show f_X12_homeBits_L4 (fu + 1) _ _ M = _
      rw [f_X12_homeBits_L4, hT.2.1, ag_n (by omega) (by omega), sb, hT.2.2.2.2.1, if_pos (nI_le (Nat.le_refl _) (by omega))]
    · show f_X12_homeBits_L4 (fu + 1) _ _ M = f_X12_homeBits_L4 fu _ _ M
      have hb := (wn.2.1 y (by omega)).2.1
      rw [f_X12_homeBits_L4, hT.2.1, ag_n (by omega) (by omega), sb, hT.2.2.2.2.1, if_neg (nI_ge hy (by omega)), li 12, nI_add, ag_n (by omega) (by omega), sb, hN.1 (12 + y) (by omega) (by omega), lt_def, lt_def, nI_1, mskN_s]
      by_cases h : ρ (12 + y) = 1
      · rw [show hmB ρ y = true by simp [hmB, h], h, ← li 1, msk_or (by omega)]
        rfl
      · have h0 : ρ (12 + y) = 0 := by omega
        have z : ∀ y, y < 6 → nI 0 <<< (nI y &&& 31) = nI 0 := by decide +kernel
        rw [show hmB ρ y = false by simp [hmB, h0], h0, z y (by omega), or_n, Nat.or_zero]
        rfl
  unfold f_X12_homeBits
  rw [key]
  rfl
theorem msk_6 (p : Nat → Bool) {n : Nat} (hn : n ≤ 6) (h : ∀ y, y < 6 → n ≤ y → p y = false) : mskN p 6 = mskN p n := by
  apply Nat.eq_of_testBit_eq
  intro j
  rw [mskN_bit, mskN_bit]
  by_cases h1 : j < n
  · simp [h1, show j < 6 by omega]
  · by_cases h2 : j < 6
    · simp [h1, h j h2 (by omega)]
    · simp [h1, h2]
theorem c_sum {a n : Nat} {f : Nat → Nat} (hn : n < 100) (h : ∀ y, y < n → M.1 a y = nI (f y)) : f_X11_sumOf a n M = some (nI (sumN f n)) := by
  have key : f_X11_sumOf_L4 a n FU 0 0 M = some (nI (sumN f n)) := by
    refine loop0 (fun fu y => f_X11_sumOf_L4 a n fu (nI (sumN f y)) (nI y) M) _ n (by omega) (fun fu => ?_) (fun fu y hy => ?_)
    · show f_X11_sumOf_L4 a n (fu + 1) _ _ M = _
      rw [f_X11_sumOf_L4, show Int32.ofNat n = nI n from rfl, if_pos (nI_le (Nat.le_refl _) (by omega))]
    · show f_X11_sumOf_L4 a n (fu + 1) _ _ M = f_X11_sumOf_L4 a n fu _ _ M
      rw [f_X11_sumOf_L4, show Int32.ofNat n = nI n from rfl, if_neg (nI_ge hy (by omega)), ag_n (by omega) (by omega), sb, h y hy, lt_def, lt_def, nI_1, nI_add, sumN_s]
  unfold f_X11_sumOf
  rw [key]
  rfl
theorem r_sum {o n : Nat} {f : Nat → Nat} (hn : o + n ≤ 48) (h : ∀ y, y < n → M.1 103 (o + y) = nI (f y)) : f_X12_sumNow (nI o) (nI n) M = some (nI (sumN f n)) := by
  have key : f_X12_sumNow_L5 FU (nI o) (nI n) 0 (nI o) M = some (nI (sumN f n)) := by
    refine loop0 (fun fu y => f_X12_sumNow_L5 fu (nI o) (nI n) (nI (sumN f y)) (nI (o + y)) M) _ n (by omega) (fun fu => ?_) (fun fu y hy => ?_)
    · show f_X12_sumNow_L5 (fu + 1) _ _ _ _ M = _
      rw [f_X12_sumNow_L5, nI_add, if_pos (nI_le (Nat.le_refl _) (by omega))]
    · show f_X12_sumNow_L5 (fu + 1) _ _ _ _ M = f_X12_sumNow_L5 fu _ _ _ _ M
      rw [f_X12_sumNow_L5, nI_add, if_neg (nI_ge (by omega) (by omega)), ag_n (by omega) (by omega), sb, h y hy, lt_def, lt_def, nI_1, nI_add, sumN_s, Nat.add_assoc]
  unfold f_X12_sumNow
  rw [key]
  rfl
end LITS

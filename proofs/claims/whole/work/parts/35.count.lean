-- 35.count: pure: count, the call
theorem s_count {M : Mem} (R : Rel M) (x : Int32) : OkA (f_X11_count x M) (f_X12_count x M) := by
  have R0 := R
  obtain ⟨t, v, τ, ρ, F, hw, wn, hT, hV, hN, hM, h7, hP, hS, hK, hA, -⟩ := R
  have hC : tC τ ≤ 7 := hw.1
  have hSt : tS τ ≤ 10 := hw.2.1
  have hY : tY τ ≤ 6 := hw.2.2.1
  have hv : v ≤ 1 := hV.1
  obtain ⟨M5, e5, fr, nr, e55, -⟩ := r_copy hM hV
  have V5 := hV.fr fr (by decide)
  have N5 : NR 103 τ ρ M5 := hM.fr fr (by decide) (by decide)
  have R5 : Rel M5 := R0.kp (fr.kp (by decide))
  have eT := rT_n h7.1 hT.1
  have hm6 : mskN (hmB ρ) 6 = mskN (hmB ρ) (tY τ) := msk_6 _ hY (fun y h1 h2 => by
    have := ((wn.2.1 y h1).2.2.2.2 h2).2.1
    simp [hmB, this])
  have rg6 : mskN (rgB ρ) 6 = mskN (rgB ρ) (tY τ) := msk_6 _ hY (fun y h1 h2 => by
    have := ((wn.2.1 y h1).2.2.2.2 h2).2.2
    simp [rgB, this])
  unfold f_X11_count f_X12_count
  rw [e5, sb]
  by_cases h0 : x = 0
  · rw [if_pos h0, if_pos h0, eT, sb, hT.2.1, V5.2.1, ag_n (by omega) (by omega), sb, V5.2.2.1]
    exact ⟨_, _, rfl, rfl, R5⟩
  rw [if_neg h0, if_neg h0]
  by_cases h1 : x = 1
  · rw [if_pos h1, if_pos h1, eT, sb, hT.2.2.1, V5.2.1, ag_n (by omega) (by omega), sb, V5.2.2.2.1]
    exact ⟨_, _, rfl, rfl, R5⟩
  rw [if_neg h1, if_neg h1]
  by_cases h2 : x = 2
  · rw [if_pos h2, if_pos h2, eT, sb, hT.2.2.2.1, V5.2.1, ag_n (by omega) (by omega), sb, V5.2.2.2.2.1]
    exact ⟨_, _, rfl, rfl, R5⟩
  rw [if_neg h2, if_neg h2]
  by_cases h3 : x = 3
  · rw [if_pos h3, if_pos h3, eT, sb, hT.2.2.2.2.1, V5.2.1, ag_n (by omega) (by omega), sb, V5.2.2.2.2.2.1]
    exact ⟨_, _, rfl, rfl, R5⟩
  rw [if_neg h3, if_neg h3]
  by_cases h4 : x = 4
  · rw [if_pos h4, if_pos h4, hN.2.2.1, li 47, ag_n (by omega) (by omega), sb, nr.1 47 (by omega) (by omega)]
    exact ⟨_, _, rfl, rfl, R5⟩
  rw [if_neg h4, if_neg h4]
  by_cases h5 : x = 5
  · rw [if_pos h5, if_pos h5, eT, sb, hT.2.1, li 46, ag_n (by omega) (by omega), sb]
    by_cases hz : tC τ = 0
    · rw [hz, if_pos nI_0, nr.2.2 hz]
      exact ⟨_, _, rfl, rfl, R5⟩
    · rw [if_neg (nI_ne0 (n := tC τ) (by omega) (by omega)), hN.2.2.2.1 (by omega), nr.2.1 (by omega)]
      exact ⟨_, _, rfl, rfl, R5⟩
  rw [if_neg h5, if_neg h5]
  obtain ⟨M6, e6, f6⟩ := r_lits hw V5 nr wn
  have R6 : Rel M6 := R5.kp (f6.kp (by decide))
  have lit10 : litN τ ρ < 1024 := Nat.lt_of_lt_of_le (mskN_lt _ _) (Nat.pow_le_pow_right (n := 2) (by decide) hSt)
  have hom10 : mskN (hmB ρ) (tY τ) < 1024 := Nat.lt_of_lt_of_le (mskN_lt _ _) (Nat.le_trans (Nat.pow_le_pow_right (n := 2) (by decide) hY) (by decide))
  by_cases h6 : x = 6
  · rw [if_pos h6, if_pos h6, c_lits hw hT hN wn, sb, e6, sb]
    exact ⟨_, _, rfl, rfl, R6⟩
  rw [if_neg h6, if_neg h6]
  by_cases hx7 : x = 7
  · rw [if_pos hx7, if_pos hx7, hN.2.2.2.2.1, hm6, r_homes hw V5 nr wn, sb]
    exact ⟨_, _, rfl, rfl, R5⟩
  rw [if_neg hx7, if_neg hx7]
  by_cases h8 : x = 8
  · obtain ⟨l, -, a1, a2, -⟩ := hA
    rw [if_pos h8, if_pos h8, a1, fr.2.1 2 (by decide) (by decide) (by decide), a2]
    exact ⟨_, _, rfl, rfl, R5⟩
  rw [if_neg h8, if_neg h8]
  by_cases h9 : x = 9
  · obtain ⟨k, -, -, -, a1, -, a2, -⟩ := hP
    rw [if_pos h9, if_pos h9, a1, fr.2.1 60 (by decide) (by decide) (by decide), a2]
    exact ⟨_, _, rfl, rfl, R5⟩
  rw [if_neg h9, if_neg h9]
  by_cases h10 : x = 10
  · obtain ⟨k, -, a1, a2, -⟩ := hK
    rw [if_pos h10, if_pos h10, a1, fr.2.1 66 (by decide) (by decide) (by decide), a2]
    exact ⟨_, _, rfl, rfl, R5⟩
  rw [if_neg h10, if_neg h10]
  by_cases h11 : x = 11
  · obtain ⟨p, a1, a2⟩ := hS
    have g : ∀ s, s < 3 → M5.1 116 s = if p s then 1 else 0 := fun s hs => by rw [fr.1 116 (by decide) (by decide)]; exact (a2 s hs).1
    rw [if_pos h11, if_pos h11, a1, c_bits (Nat.lt_of_lt_of_le (mskN_lt _ 3) (by decide)), sb, show (0 : Int32) = nI 0 from rfl, show (1 : Int32) = nI 1 from rfl, show (2 : Int32) = nI 2 from rfl, ag_n (by omega) (by omega), sb, g 0 (by omega), lt_def, ag_n (by omega) (by omega), sb, g 1 (by omega), lt_def, ag_n (by omega) (by omega), sb, g 2 (by omega)]
    have m : mskN p 3 = (if p 0 then 1 else 0) + (if p 1 then 2 else 0) + (if p 2 then 4 else 0) := by
      simp [mskN_s, mskN, sumN, itr]
    rw [m]
    cases p 0 <;> cases p 1 <;> cases p 2 <;> exact ⟨_, _, rfl, rfl, R5⟩
  rw [if_neg h11, if_neg h11]
  by_cases h12 : x = 12
  · rw [if_pos h12, if_pos h12, eT, sb, sb]
    unfold f_X0_isDraughty f_X12_isDraught
    rw [c_lot (by decide), sb, hT.2.2.2.2.2.1, hN.2.2.1, hT.2.2.2.2.2.2.1, li 47, ag_n (by omega) (by omega), sb, nr.1 47 (by omega) (by omega), r_lot (by decide), sb, e55, V5.2.1, ag_n (by omega) (by omega), sb, V5.2.2.2.2.2.2.1]
    by_cases hd : nI (tD τ) ≤ lotV (nI (tE τ)) (4 * nI (ρ 47)) 100
    · rw [if_pos hd, sb, sb, if_pos rfl, if_pos rfl]
      exact ⟨_, _, rfl, rfl, R5⟩
    · rw [if_neg hd, sb, sb, if_neg ne10, if_neg ne10]
      exact ⟨_, _, rfl, rfl, R5⟩
  rw [if_neg h12, if_neg h12]
  by_cases h13 : x = 13
  · rw [if_pos h13, if_pos h13, c_sum (f := fun y => ρ (6 + y)) (by omega) (fun y hy => (hN.2.2.2.2.2.2.2.1 y hy).1), sb, li 6, r_sum (f := fun y => ρ (6 + y)) (by omega) (fun y hy => N5.1 (6 + y) (by omega) (by omega)), sb]
    exact ⟨_, _, rfl, rfl, R5⟩
  rw [if_neg h13, if_neg h13]
  by_cases h14 : x = 14
  · rw [if_pos h14, if_pos h14, c_sum (f := fun y => ρ (36 + y)) (by omega) (fun y hy => (hN.2.2.2.2.2.2.2.2 y hy).1), sb, li 36, li 5, r_sum (f := fun y => ρ (36 + y)) (by omega) (fun y hy => N5.1 (36 + y) (by omega) (by omega)), sb]
    exact ⟨_, _, rfl, rfl, R5⟩
  rw [if_neg h14, if_neg h14]
  by_cases h15 : x = 15
  · rw [if_pos h15, if_pos h15, c_use hw hT hN wn, sb, r_use hw V5 nr wn, sb]
    exact ⟨_, _, rfl, rfl, R5⟩
  rw [if_neg h15, if_neg h15]
  by_cases h16 : x = 16
  · rw [if_pos h16, if_pos h16, c_sum (f := fun y => ρ (18 + y)) (by omega) (fun y hy => (hN.2.2.2.2.2.2.2.1 y hy).2.1), sb, li 18, li 6, r_sum (f := fun y => ρ (18 + y)) (by omega) (fun y hy => N5.1 (18 + y) (by omega) (by omega)), sb]
    exact ⟨_, _, rfl, rfl, R5⟩
  rw [if_neg h16, if_neg h16]
  by_cases h17 : x = 17
  · rw [if_pos h17, if_pos h17, c_lits hw hT hN wn, sb, c_bits lit10, sb, e6, sb, r_bits lit10, sb]
    exact ⟨_, _, rfl, rfl, R6⟩
  rw [if_neg h17, if_neg h17]
  by_cases h18 : x = 18
  · rw [if_pos h18, if_pos h18, hN.2.2.2.2.2.1, rg6, r_rouges hw V5 nr wn, sb]
    exact ⟨_, _, rfl, rfl, R5⟩
  rw [if_neg h18, if_neg h18]
  by_cases h19 : x = 19
  · rw [if_pos h19, if_pos h19, hN.2.2.2.2.1, hm6, c_bits hom10, sb, r_homes hw V5 nr wn, sb, r_bits hom10, sb]
    exact ⟨_, _, rfl, rfl, R5⟩
  rw [if_neg h19, if_neg h19]
  by_cases h20 : x = 20
  · rw [if_pos h20, if_pos h20, c_needs hw hT hN wn, sb, r_needs hw V5 nr wn, sb]
    exact ⟨_, _, rfl, rfl, R5⟩
  rw [if_neg h20, if_neg h20]
  exact ⟨_, _, rfl, rfl, R5⟩

-- 41.young: pure: young, tells
theorem eith (x : Int32) : ((x = 0 ∨ x = 1) ∧ f_X12_in x 0 1 = some 1 ∧ f_X11_isEither x = some 1) ∨ (¬ x = 0 ∧ ¬ x = 1 ∧ f_X12_in x 0 1 = some 0 ∧ f_X11_isEither x = some 0) := by
  by_cases h0 : x = 0
  · subst h0
    exact Or.inl ⟨Or.inl rfl, by decide, by decide⟩
  by_cases h1 : x = 1
  · subst h1
    exact Or.inl ⟨Or.inr rfl, by decide, by decide⟩
  refine Or.inr ⟨h0, h1, in_o (n := 2) (by omega) ?_, ?_⟩
  · rcases ar_in x (n := 2) (by omega) with h | ⟨j, hj, rfl⟩
    · exact h
    · rcases (by omega : j = 0 ∨ j = 1) with rfl | rfl
      · exact absurd rfl h0
      · exact absurd rfl h1
  · unfold f_X11_isEither
    rw [if_neg h0, if_neg h1]
theorem hours_in (x : Int32) : f_X11_areHours x = f_X12_in x 0 72 := rfl
theorem hrs (x : Int32) : (f_X12_in x 0 72 = some 0) ∨ ∃ n : Nat, n ≤ 72 ∧ x = nI n ∧ f_X12_in x 0 72 = some 1 := by
  rcases ar_in x (n := 73) (by omega) with h | ⟨n, hn, rfl⟩
  · exact Or.inl (in_o (n := 73) (by omega) h)
  · exact Or.inr ⟨n, by omega, rfl, in_i (n := 73) hn (by omega)⟩
theorem s_young {M : Mem} (R : Rel M) (x1 x2 : Int32) : OkB (f_X11_young x1 x2 M) (f_X12_young x1 x2) := by
  have R0 := R
  obtain ⟨t, v, τ, ρ, F, R⟩ := R
  have hw := R.1
  have wn := R.2.1
  have hT : TC t τ M := R.2.2.1
  have hV : TR v τ M := R.2.2.2.1
  have hN : NC 60 t τ ρ M := R.2.2.2.2.1
  have h9 : M.2.2 0 9 = some t := R.2.2.2.2.2.2.1.1
  have hY : tY τ ≤ 6 := hw.2.2.1
  have hv : v ≤ 1 := hV.1
  rcases ar_in x1 (n := tY τ) (by omega) with h | ⟨j, hj, rfl⟩
  · refine ⟨-1, M, M, ?_, ?_, R0⟩
    · unfold f_X11_young
      rw [c_isYoung_o hT h9 h, sb, if_pos rfl]
    · unfold f_X12_young
      rw [r_isYoung_o hw hV h, sb, if_pos rfl]
  obtain ⟨M5, e5, R5, X5, f5, -, -⟩ := R.rx
  have V5 : TR v τ M5 := X5.2.2.1
  have n5 : ∀ k, k < 48 → k ≠ 46 → M5.1 104 k = nI (ρ k) := X5.2.2.2.1.1
  have cT := hT.2.2.2.2.2.2.2.2 j hj
  have cV := V5.2.2.2.2.2.2.2.2.2 j hj
  have q1 : M.1 61 j = nI (ρ j) := hN.2.2.2.2.2.2.1 j hj
  obtain ⟨q2, q3, q4⟩ := hN.2.2.2.2.2.2.2.1 j (by omega)
  have q2 : M.1 62 j = nI (ρ (6 + j)) := q2
  have q3 : M.1 63 j = nI (ρ (18 + j)) := q3
  have q4 : M.1 (60 + 4) j = nI (ρ (24 + j)) := q4
  have qh : M.1 60 1 = nI (ρ 47) := hN.2.2.1
  have hb := (wn.2.1 j (by omega)).2.1
  have hr := (wn.2.1 j (by omega)).2.2.1
  have cY := c_isYoung_i hw hT h9 hj
  have rY := r_isYoung_i hw hV hj
  by_cases h0 : x2 = 0
  · refine ⟨nI (τ 4 j), M, M5, ?_, ?_, R5.rel⟩
    · unfold f_X11_young
      rw [cY, sb, if_neg ne10, if_pos h0, rT_n h9 hT.1, sb, ag_n (by omega) (by omega), sb, cT.1]
    · unfold f_X12_young
      rw [rY, sb, if_neg ne10, e5, sb, if_pos h0, V5.2.1, li 6, pk_mul, nI_add, ag_n (by omega) (by omega), sb, cV.1]
  by_cases h1 : x2 = 1
  · refine ⟨nI (τ 5 j), M, M5, ?_, ?_, R5.rel⟩
    · unfold f_X11_young
      rw [cY, sb, if_neg ne10, if_neg h0, if_pos h1, rT_n h9 hT.1, sb, ag_n (by omega) (by omega), sb, cT.2]
    · unfold f_X12_young
      rw [rY, sb, if_neg ne10, e5, sb, if_neg h0, if_pos h1, V5.2.1, li 6, pk_mul, nI_add, ag_n (by omega) (by omega), sb, cV.2]
  by_cases h2 : x2 = 2
  · refine ⟨nI (ρ j), M, M5, ?_, ?_, R5.rel⟩
    · unfold f_X11_young
      rw [cY, sb, if_neg ne10, if_neg h0, if_neg h1, if_pos h2, ag_n (by omega) (by omega), sb, q1]
    · unfold f_X12_young
      rw [rY, sb, if_neg ne10, e5, sb, if_neg h0, if_neg h1, if_pos h2, ag_n (by omega) (by omega), sb, n5 j (by omega) (by omega)]
  by_cases h3 : x2 = 3
  · refine ⟨nI (ρ (6 + j)), M, M5, ?_, ?_, R5.rel⟩
    · unfold f_X11_young
      rw [cY, sb, if_neg ne10, if_neg h0, if_neg h1, if_neg h2, if_pos h3, ag_n (by omega) (by omega), sb, q2]
    · unfold f_X12_young
      rw [rY, sb, if_neg ne10, e5, sb, if_neg h0, if_neg h1, if_neg h2, if_pos h3, li 6, nI_add, ag_n (by omega) (by omega), sb, n5 (6 + j) (by omega) (by omega)]
  by_cases h4 : x2 = 4
  · refine ⟨nI (ρ (12 + j)), M, M5, ?_, ?_, R5.rel⟩
    · unfold f_X11_young
      rw [cY, sb, if_neg ne10, if_neg h0, if_neg h1, if_neg h2, if_neg h3, if_pos h4, c_home hN wn (by omega), sb]
      rcases (by omega : ρ (12 + j) = 0 ∨ ρ (12 + j) = 1) with e | e
      · rw [hm_0 e, if_neg Bool.false_ne_true, if_pos rfl, e]
        rfl
      · rw [hm_1 e, if_pos rfl, if_neg ne10, e]
        rfl
    · unfold f_X12_young
      rw [rY, sb, if_neg ne10, e5, sb, if_neg h0, if_neg h1, if_neg h2, if_neg h3, if_pos h4, li 12, nI_add, ag_n (by omega) (by omega), sb, n5 (12 + j) (by omega) (by omega)]
  by_cases h5 : x2 = 5
  · refine ⟨nI (ρ (18 + j)), M, M5, ?_, ?_, R5.rel⟩
    · unfold f_X11_young
      rw [cY, sb, if_neg ne10, if_neg h0, if_neg h1, if_neg h2, if_neg h3, if_neg h4, if_pos h5, ag_n (by omega) (by omega), sb, q3]
    · unfold f_X12_young
      rw [rY, sb, if_neg ne10, e5, sb, if_neg h0, if_neg h1, if_neg h2, if_neg h3, if_neg h4, if_pos h5, li 18, nI_add, ag_n (by omega) (by omega), sb, n5 (18 + j) (by omega) (by omega)]
  by_cases h6 : x2 = 6
  · refine ⟨nI (ρ 47) - nI (ρ (24 + j)), M, M5, ?_, ?_, R5.rel⟩
    · unfold f_X11_young f_X3_since
      rw [cY, sb, if_neg ne10, if_neg h0, if_neg h1, if_neg h2, if_neg h3, if_neg h4, if_neg h5, if_pos h6, ag_n (by omega) (by omega), sb, sb, qh, q4]
    · unfold f_X12_young
      rw [rY, sb, if_neg ne10, e5, sb, if_neg h0, if_neg h1, if_neg h2, if_neg h3, if_neg h4, if_neg h5, if_pos h6, li 47, li 24, nI_add, ag_n (by omega) (by omega), sb, ag_n (by omega) (by omega), sb, n5 47 (by omega) (by omega), n5 (24 + j) (by omega) (by omega)]
  by_cases h7 : x2 = 7
  · refine ⟨nI (ρ (30 + j)), M, M5, ?_, ?_, R5.rel⟩
    · unfold f_X11_young
      rw [cY, sb, if_neg ne10, if_neg h0, if_neg h1, if_neg h2, if_neg h3, if_neg h4, if_neg h5, if_neg h6, if_pos h7, hN.2.2.2.2.2.1, bit_n (Nat.lt_of_lt_of_le (mskN_lt _ 6) (by decide)) (by omega), mskN_bit]
      rcases (by omega : ρ (30 + j) = 0 ∨ ρ (30 + j) = 1) with e | e
      · have e2 : rgB ρ j = false := by simp [rgB, e]
        rw [e2, e, Bool.and_false, if_neg Bool.false_ne_true]
        rfl
      · have e2 : rgB ρ j = true := by simp [rgB, e]
        rw [e2, e, Bool.and_true, if_pos (decide_eq_true (by omega))]
        rfl
    · unfold f_X12_young
      rw [rY, sb, if_neg ne10, e5, sb, if_neg h0, if_neg h1, if_neg h2, if_neg h3, if_neg h4, if_neg h5, if_neg h6, if_pos h7, li 30, nI_add, ag_n (by omega) (by omega), sb, n5 (30 + j) (by omega) (by omega)]
  by_cases h8 : x2 = 8
  · rcases (by omega : ρ (12 + j) = 0 ∨ ρ (12 + j) = 1) with e | e
    · obtain ⟨M1, c1, f1⟩ := c_cools R.cx isL_31 hj
      have R1 := R.fl f1
      obtain ⟨M6, e6, R6, X6, -, -, -⟩ := R1.rx
      obtain ⟨M7, e7, f7⟩ := r_cools X6 hj
      refine ⟨nI (cwN F τ ρ j), M1, M7, ?_, ?_, (R6.fm f7.m (by decide)).rel⟩
      · unfold f_X11_young
        rw [cY, sb, if_neg ne10, if_neg h0, if_neg h1, if_neg h2, if_neg h3, if_neg h4, if_neg h5, if_neg h6, if_neg h7, if_pos h8, c_home hN wn (by omega), sb, hm_0 e, if_neg Bool.false_ne_true, if_pos rfl, c1, sb]
      · unfold f_X12_young
        rw [r_isYoung_i hw R1.2.2.2.1 hj, sb, if_neg ne10, e6, sb, if_neg h0, if_neg h1, if_neg h2, if_neg h3, if_neg h4, if_neg h5, if_neg h6, if_neg h7, if_pos h8, li 12, nI_add, ag_n (by omega) (by omega), sb, X6.2.2.2.1.1 (12 + j) (by omega) (by omega), e, if_neg (by decide), e7, sb]
    · refine ⟨0, M, M5, ?_, ?_, R5.rel⟩
      · unfold f_X11_young
        rw [cY, sb, if_neg ne10, if_neg h0, if_neg h1, if_neg h2, if_neg h3, if_neg h4, if_neg h5, if_neg h6, if_neg h7, if_pos h8, c_home hN wn (by omega), sb, hm_1 e, if_pos rfl, if_neg ne10]
      · unfold f_X12_young
        rw [rY, sb, if_neg ne10, e5, sb, if_neg h0, if_neg h1, if_neg h2, if_neg h3, if_neg h4, if_neg h5, if_neg h6, if_neg h7, if_pos h8, li 12, nI_add, ag_n (by omega) (by omega), sb, n5 (12 + j) (by omega) (by omega), e, if_pos (show nI 1 = 1 from rfl)]
  by_cases h9' : x2 = 9
  · rcases (by omega : ρ (12 + j) = 0 ∨ ρ (12 + j) = 1) with e | e
    · obtain ⟨M1, c1, f1⟩ := c_leaves R.cx isL_31 hj
      have R1 := R.fl f1
      obtain ⟨M6, e6, R6, X6, -, -, -⟩ := R1.rx
      obtain ⟨M7, e7, f7⟩ := r_leaves X6 hj
      have q : (if ρ (12 + j) = 0 ∧ lvB F τ ρ j = true then (1 : Int32) else 0) = if lvB F τ ρ j then 1 else 0 := by cases lvB F τ ρ j <;> simp [e]
      rw [q] at e7
      refine ⟨if lvB F τ ρ j then 1 else 0, M1, M7, ?_, ?_, (R6.fm f7.m (by decide)).rel⟩
      · unfold f_X11_young
        rw [cY, sb, if_neg ne10, if_neg h0, if_neg h1, if_neg h2, if_neg h3, if_neg h4, if_neg h5, if_neg h6, if_neg h7, if_neg h8, if_pos h9', c_home hN wn (by omega), sb, hm_0 e, if_neg Bool.false_ne_true, if_pos rfl, c1, sb]
        cases lvB F τ ρ j <;> rfl
      · unfold f_X12_young
        rw [r_isYoung_i hw R1.2.2.2.1 hj, sb, if_neg ne10, e6, sb, if_neg h0, if_neg h1, if_neg h2, if_neg h3, if_neg h4, if_neg h5, if_neg h6, if_neg h7, if_neg h8, if_pos h9', e7, sb]
        cases lvB F τ ρ j <;> rfl
    · obtain ⟨M7, e7, f7⟩ := r_leaves X5 hj
      rw [if_neg (fun z => absurd z.1 (by omega))] at e7
      refine ⟨0, M, M7, ?_, ?_, (R5.fm f7.m (by decide)).rel⟩
      · unfold f_X11_young
        rw [cY, sb, if_neg ne10, if_neg h0, if_neg h1, if_neg h2, if_neg h3, if_neg h4, if_neg h5, if_neg h6, if_neg h7, if_neg h8, if_pos h9', c_home hN wn (by omega), sb, hm_1 e, if_pos rfl, if_neg ne10]
      · unfold f_X12_young
        rw [rY, sb, if_neg ne10, e5, sb, if_neg h0, if_neg h1, if_neg h2, if_neg h3, if_neg h4, if_neg h5, if_neg h6, if_neg h7, if_neg h8, if_pos h9', e7, sb]
        rfl
  refine ⟨-1, M, M5, ?_, ?_, R5.rel⟩
  · unfold f_X11_young
    rw [cY, sb, if_neg ne10, if_neg h0, if_neg h1, if_neg h2, if_neg h3, if_neg h4, if_neg h5, if_neg h6, if_neg h7, if_neg h8, if_neg h9']
  · unfold f_X12_young
    rw [rY, sb, if_neg ne10, e5, sb, if_neg h0, if_neg h1, if_neg h2, if_neg h3, if_neg h4, if_neg h5, if_neg h6, if_neg h7, if_neg h8, if_neg h9']
theorem s_tells {M : Mem} (R : Rel M) (x1 x2 x3 : Int32) : OkB (f_X11_tells x1 x2 x3 M) (f_X12_tells x1 x2 x3) := by
  have R0 := R
  obtain ⟨t, v, τ, ρ, F, R⟩ := R
  have hw := R.1
  have hT : TC t τ M := R.2.2.1
  have hV : TR v τ M := R.2.2.2.1
  have h9 : M.2.2 0 9 = some t := R.2.2.2.2.2.2.1.1
  have hY : tY τ ≤ 6 := hw.2.2.1
  have hW : tW τ ≤ 5 := hw.2.2.2.1
  have bad : f_X11_tells x1 x2 x3 M = some (-1, M) → f_X12_tells x1 x2 x3 M = some (-1, M) → OkB (f_X11_tells x1 x2 x3 M) (f_X12_tells x1 x2 x3) := fun a b => ⟨-1, M, M, a, b, R0⟩
  rcases ar_in x1 (n := tY τ) (by omega) with h | ⟨j, hj, rfl⟩
  · apply bad
    · unfold f_X11_tells
      rw [c_isYoung_o hT h9 h, sb, if_pos rfl]
    · unfold f_X12_tells
      rw [r_isYoung_o hw hV h, sb, if_pos rfl]
  rcases ar_in x2 (n := tW τ) (by omega) with h | ⟨w, hW2, rfl⟩
  · apply bad
    · unfold f_X11_tells
      rw [c_isYoung_i hw hT h9 hj, sb, if_neg ne10, c_isWord_o hT h9 h, sb, if_pos rfl]
    · unfold f_X12_tells
      rw [r_isYoung_i hw hV hj, sb, if_neg ne10, r_isWord_o hw hV h, sb, if_pos rfl]
  rcases eith x3 with ⟨h01, i1, -⟩ | ⟨n0, n1, i1, -⟩
  · rcases h01 with rfl | rfl
    · obtain ⟨M1, c1, f1⟩ := c_glows R.cx isL_31 hj hW2
      have R1 := R.fl f1
      obtain ⟨M6, e6, R6, X6, -, -, -⟩ := R1.rx
      obtain ⟨M7, e7, f7⟩ := r_glows X6 hj hW2
      refine ⟨nI (gwN F τ ρ j w), M1, M7, ?_, ?_, (R6.fm f7.m (by decide)).rel⟩
      · unfold f_X11_tells
        rw [c_isYoung_i hw hT h9 hj, sb, if_neg ne10, c_isWord_i hw hT h9 hW2, sb, if_neg ne10, if_pos rfl, c1, sb]
      · unfold f_X12_tells
        rw [r_isYoung_i hw R1.2.2.2.1 hj, sb, if_neg ne10, r_isWord_i hw R1.2.2.2.1 hW2, sb, if_neg ne10, i1, sb, if_neg ne10, e6, sb, if_pos rfl, e7, sb]
    · obtain ⟨M1, c1, f1⟩ := c_wears R.cx isL_31 hj hW2
      have R1 := R.fl f1
      obtain ⟨M6, e6, R6, X6, -, -, -⟩ := R1.rx
      obtain ⟨M7, e7, f7⟩ := r_wears X6 hj hW2
      refine ⟨nI (waN F τ ρ j w), M1, M7, ?_, ?_, (R6.fm f7.m (by decide)).rel⟩
      · unfold f_X11_tells
        rw [c_isYoung_i hw hT h9 hj, sb, if_neg ne10, c_isWord_i hw hT h9 hW2, sb, if_neg ne10, if_neg ne10, if_pos rfl, c1, sb]
      · unfold f_X12_tells
        rw [r_isYoung_i hw R1.2.2.2.1 hj, sb, if_neg ne10, r_isWord_i hw R1.2.2.2.1 hW2, sb, if_neg ne10, i1, sb, if_neg ne10, e6, sb, if_neg ne10, e7, sb]
  · apply bad
    · unfold f_X11_tells
      rw [c_isYoung_i hw hT h9 hj, sb, if_neg ne10, c_isWord_i hw hT h9 hW2, sb, if_neg ne10, if_neg n0, if_neg n1]
    · unfold f_X12_tells
      rw [r_isYoung_i hw hV hj, sb, if_neg ne10, r_isWord_i hw hV hW2, sb, if_neg ne10, i1, sb, if_pos rfl]

-- 90.pure: class and reference answer alike on every script
section PUR
theorem fin_B {c : Option (Int32 × Mem)} {r : Mem → Option (Int32 × Mem)} {K : Mem → Option Unit} (h : OkB c r) (k : ∀ M2, Rel M2 → K M2 = some ()) : (c.bind fun t => (r t.2).bind fun u => if t.1 = u.1 then K u.2 else none) = some () := by
  obtain ⟨x, M1, M2, e1, e2, R⟩ := h
  rw [e1, sb, e2, sb, if_pos rfl]
  exact k M2 R
theorem fin_A {c : Option Int32} {r : Option (Int32 × Mem)} {K : Mem → Option Unit} (h : OkA c r) (k : ∀ M2, Rel M2 → K M2 = some ()) : (c.bind fun t => r.bind fun u => if t = u.1 then K u.2 else none) = some () := by
  obtain ⟨x, M2, e1, e2, R⟩ := h
  rw [e1, sb, e2, sb, if_pos rfl]
  exact k M2 R
theorem fin_C {c r : Option Int32} {K : Option Unit} (h : OkC c r) (k : K = some ()) : (c.bind fun t => r.bind fun u => if t = u then K else none) = some () := by
  obtain ⟨x, e1, e2⟩ := h
  rw [e1, sb, e2, sb, if_pos rfl]
  exact k
theorem xg_n {SL i : Nat} {xs : Nat → Int32} (h : i < SL) (hS : SL < 100000) : xg SL xs (nI i) = some (xs i) := by
  unfold xg
  rw [if_neg (vp_in_nI h (by omega)), nI_clamp (by omega)]
theorem law_go {SL : Nat} (hSL : SL ≤ 3072) (xs : Nat → Int32) : ∀ (m fu k : Nat) (M : Mem), SL ≤ k + m → m < fu → k ≤ 4000 → Rel M → law_L SL xs fu (nI k) M = some ()
  | m, 0, k, M, hm, hf, hk, R => absurd hf (by omega)
  | m, fu + 1, k, M, hm, hf, hk, R => by
    have e6 : ((Int32.ofNat SL) - (6 : Int32)).toInt = (SL : Int) - (6 : Nat) := pk_sub_toInt (a := SL) (b := 6) (by omega) (by omega)
    have ek : (nI k).toInt = (k : Int) := nI_toInt (by omega)
    rw [law_L]
    by_cases hx : k + 6 ≤ SL
    · have c : ¬ (Int32.ofNat SL) - (6 : Int32) < nI k := fun z => by
        have := Int32.lt_iff_toInt_lt.mp z
        rw [e6, ek] at this
        omega
      obtain ⟨q, rfl⟩ : ∃ q, m = q + 1 := ⟨m - 1, by omega⟩
      have ih : ∀ M2, Rel M2 → law_L SL xs fu (nI k + 6) M2 = some () := fun M2 R2 => by
        rw [show nI k + (6 : Int32) = nI (k + 6) from nI_add k 6]
        exact law_go hSL xs q fu (k + 6) M2 (by omega) (by omega) (by omega) R2
      have x1 : xg SL xs (nI k + 1) = some (xs (k + 1)) := by rw [show nI k + (1 : Int32) = nI (k + 1) from nI_add k 1]; exact xg_n (by omega) (by omega)
      have x2 : xg SL xs (nI k + 2) = some (xs (k + 2)) := by rw [show nI k + (2 : Int32) = nI (k + 2) from nI_add k 2]; exact xg_n (by omega) (by omega)
      have x3 : xg SL xs (nI k + 3) = some (xs (k + 3)) := by rw [show nI k + (3 : Int32) = nI (k + 3) from nI_add k 3]; exact xg_n (by omega) (by omega)
      have x4 : xg SL xs (nI k + 4) = some (xs (k + 4)) := by rw [show nI k + (4 : Int32) = nI (k + 4) from nI_add k 4]; exact xg_n (by omega) (by omega)
      have x5 : xg SL xs (nI k + 5) = some (xs (k + 5)) := by rw [show nI k + (5 : Int32) = nI (k + 5) from nI_add k 5]; exact xg_n (by omega) (by omega)
      rw [if_neg c, xg_n (show k < SL by omega) (by omega), sb, lt_def]
      generalize xs k &&& (63 : Int32) = v3
      by_cases h0 : v3 = 0
      · rw [if_pos h0]
        simp only [x1, x2, x3, x4, x5, sb, lt_def]
        exact fin_B (K := fun M2 => law_L SL xs fu (nI k + 6) M2) (s_feed R _ _ _ _ _) ih
      rw [if_neg h0]
      by_cases h1 : v3 = 1
      · rw [if_pos h1]
        simp only [x1, sb, lt_def]
        exact fin_B (K := fun M2 => law_L SL xs fu (nI k + 6) M2) (s_back R _) ih
      rw [if_neg h1]
      by_cases h2 : v3 = 2
      · rw [if_pos h2]
        simp only [lt_def]
        exact fin_B (K := fun M2 => law_L SL xs fu (nI k + 6) M2) (s_read R ) ih
      rw [if_neg h2]
      by_cases h3 : v3 = 3
      · rw [if_pos h3]
        simp only [lt_def]
        exact fin_C (K := law_L SL xs fu (nI k + 6) M) (s_place R ) (ih M R)
      rw [if_neg h3]
      by_cases h4 : v3 = 4
      · rw [if_pos h4]
        simp only [x1, x2, sb, lt_def]
        exact fin_A (K := fun M2 => law_L SL xs fu (nI k + 6) M2) (s_corner R _ _) ih
      rw [if_neg h4]
      by_cases h5 : v3 = 5
      · rw [if_pos h5]
        simp only [x1, x2, sb, lt_def]
        exact fin_A (K := fun M2 => law_L SL xs fu (nI k + 6) M2) (s_street R _ _) ih
      rw [if_neg h5]
      by_cases h6 : v3 = 6
      · rw [if_pos h6]
        simp only [x1, x2, sb, lt_def]
        exact fin_B (K := fun M2 => law_L SL xs fu (nI k + 6) M2) (s_young R _ _) ih
      rw [if_neg h6]
      by_cases h7 : v3 = 7
      · rw [if_pos h7]
        simp only [x1, x2, sb, lt_def]
        exact fin_C (K := law_L SL xs fu (nI k + 6) M) (s_word R _ _) (ih M R)
      rw [if_neg h7]
      by_cases h8 : v3 = 8
      · rw [if_pos h8]
        simp only [x1, x2, x3, sb, lt_def]
        exact fin_B (K := fun M2 => law_L SL xs fu (nI k + 6) M2) (s_tells R _ _ _) ih
      rw [if_neg h8]
      by_cases h9 : v3 = 9
      · rw [if_pos h9]
        simp only [x1, sb, lt_def]
        exact fin_B (K := fun M2 => law_L SL xs fu (nI k + 6) M2) (s_step R _) ih
      rw [if_neg h9]
      by_cases h10 : v3 = 10
      · rw [if_pos h10]
        simp only [x1, x2, sb, lt_def]
        exact fin_B (K := fun M2 => law_L SL xs fu (nI k + 6) M2) (s_say R _ _) ih
      rw [if_neg h10]
      by_cases h11 : v3 = 11
      · rw [if_pos h11]
        simp only [x1, x2, sb, lt_def]
        exact fin_B (K := fun M2 => law_L SL xs fu (nI k + 6) M2) (s_move R _ _) ih
      rw [if_neg h11]
      by_cases h12 : v3 = 12
      · rw [if_pos h12]
        simp only [x1, sb, lt_def]
        exact fin_B (K := fun M2 => law_L SL xs fu (nI k + 6) M2) (s_rouge R _) ih
      rw [if_neg h12]
      by_cases h13 : v3 = 13
      · rw [if_pos h13]
        simp only [x1, sb, lt_def]
        exact fin_B (K := fun M2 => law_L SL xs fu (nI k + 6) M2) (s_hours R _) ih
      rw [if_neg h13]
      by_cases h14 : v3 = 14
      · rw [if_pos h14]
        simp only [lt_def]
        exact fin_B (K := fun M2 => law_L SL xs fu (nI k + 6) M2) (s_undo R ) ih
      rw [if_neg h14]
      by_cases h15 : v3 = 15
      · rw [if_pos h15]
        simp only [x1, sb, lt_def]
        exact fin_B (K := fun M2 => law_L SL xs fu (nI k + 6) M2) (s_darkens R _) ih
      rw [if_neg h15]
      by_cases h16 : v3 = 16
      · rw [if_pos h16]
        simp only [x1, sb, lt_def]
        exact fin_B (K := fun M2 => law_L SL xs fu (nI k + 6) M2) (s_best R _) ih
      rw [if_neg h16]
      by_cases h17 : v3 = 17
      · rw [if_pos h17]
        simp only [x1, x2, sb, lt_def]
        exact fin_B (K := fun M2 => law_L SL xs fu (nI k + 6) M2) (s_telling R _ _) ih
      rw [if_neg h17]
      by_cases h18 : v3 = 18
      · rw [if_pos h18]
        simp only [lt_def]
        exact fin_B (K := fun M2 => law_L SL xs fu (nI k + 6) M2) (s_keep R ) ih
      rw [if_neg h18]
      by_cases h19 : v3 = 19
      · rw [if_pos h19]
        simp only [x1, x2, sb, lt_def]
        exact fin_B (K := fun M2 => law_L SL xs fu (nI k + 6) M2) (s_steps R _ _) ih
      rw [if_neg h19]
      by_cases h20 : v3 = 20
      · rw [if_pos h20]
        simp only [lt_def]
        exact fin_B (K := fun M2 => law_L SL xs fu (nI k + 6) M2) (s_round R ) ih
      rw [if_neg h20]
      by_cases h21 : v3 = 21
      · rw [if_pos h21]
        simp only [x1, sb, lt_def]
        exact fin_B (K := fun M2 => law_L SL xs fu (nI k + 6) M2) (s_safe R _) ih
      rw [if_neg h21]
      by_cases h22 : v3 = 22
      · rw [if_pos h22]
        simp only [x1, x2, sb, lt_def]
        exact fin_B (K := fun M2 => law_L SL xs fu (nI k + 6) M2) (s_dark R _ _) ih
      rw [if_neg h22]
      by_cases h23 : v3 = 23
      · rw [if_pos h23]
        simp only [lt_def]
        exact fin_B (K := fun M2 => law_L SL xs fu (nI k + 6) M2) (s_bridges R ) ih
      rw [if_neg h23]
      by_cases h24 : v3 = 24
      · rw [if_pos h24]
        simp only [x1, sb, lt_def]
        exact fin_B (K := fun M2 => law_L SL xs fu (nI k + 6) M2) (s_gather R _) ih
      rw [if_neg h24]
      by_cases h25 : v3 = 25
      · rw [if_pos h25]
        simp only [x1, x2, sb, lt_def]
        exact fin_A (K := fun M2 => law_L SL xs fu (nI k + 6) M2) (s_moves R _ _) ih
      rw [if_neg h25]
      by_cases h26 : v3 = 26
      · rw [if_pos h26]
        simp only [x1, x2, sb, lt_def]
        exact fin_A (K := fun M2 => law_L SL xs fu (nI k + 6) M2) (s_cut R _ _) ih
      rw [if_neg h26]
      by_cases h27 : v3 = 27
      · rw [if_pos h27]
        simp only [lt_def]
        exact fin_C (K := law_L SL xs fu (nI k + 6) M) (s_tree R ) (ih M R)
      rw [if_neg h27]
      by_cases h28 : v3 = 28
      · rw [if_pos h28]
        simp only [x1, sb, lt_def]
        exact fin_B (K := fun M2 => law_L SL xs fu (nI k + 6) M2) (s_twins R _) ih
      rw [if_neg h28]
      by_cases h29 : v3 = 29
      · rw [if_pos h29]
        simp only [x1, sb, lt_def]
        exact fin_A (K := fun M2 => law_L SL xs fu (nI k + 6) M2) (s_brightest R _) ih
      rw [if_neg h29]
      by_cases h30 : v3 = 30
      · rw [if_pos h30]
        simp only [x1, x2, sb, lt_def]
        exact fin_B (K := fun M2 => law_L SL xs fu (nI k + 6) M2) (s_glowIn R _ _) ih
      rw [if_neg h30]
      by_cases h31 : v3 = 31
      · rw [if_pos h31]
        simp only [x1, x2, sb, lt_def]
        exact fin_B (K := fun M2 => law_L SL xs fu (nI k + 6) M2) (s_then R _ _) ih
      rw [if_neg h31]
      by_cases h32 : v3 = 32
      · rw [if_pos h32]
        simp only [x1, x2, x3, sb, lt_def]
        exact fin_B (K := fun M2 => law_L SL xs fu (nI k + 6) M2) (s_year R _ _ _) ih
      rw [if_neg h32]
      by_cases h33 : v3 = 33
      · rw [if_pos h33]
        simp only [x1, x2, x3, sb, lt_def]
        exact fin_B (K := fun M2 => law_L SL xs fu (nI k + 6) M2) (s_tell R _ _ _ (by split <;> simp)) ih
      rw [if_neg h33]
      by_cases h34 : v3 = 34
      · rw [if_pos h34]
        simp only [lt_def]
        exact fin_B (K := fun M2 => law_L SL xs fu (nI k + 6) M2) (s_forget R ) ih
      rw [if_neg h34]
      by_cases h35 : v3 = 35
      · rw [if_pos h35]
        simp only [x1, x2, sb, lt_def]
        exact fin_B (K := fun M2 => law_L SL xs fu (nI k + 6) M2) (s_words R _ _) ih
      rw [if_neg h35]
      by_cases h36 : v3 = 36
      · rw [if_pos h36]
        simp only [x1, x2, sb, lt_def]
        exact fin_B (K := fun M2 => law_L SL xs fu (nI k + 6) M2) (s_look R _ _) ih
      rw [if_neg h36]
      by_cases h37 : v3 = 37
      · rw [if_pos h37]
        simp only [x1, sb, lt_def]
        exact fin_B (K := fun M2 => law_L SL xs fu (nI k + 6) M2) (s_hold R _) ih
      rw [if_neg h37]
      by_cases h38 : v3 = 38
      · rw [if_pos h38]
        simp only [x1, sb, lt_def]
        exact fin_B (K := fun M2 => law_L SL xs fu (nI k + 6) M2) (s_restore R _) ih
      rw [if_neg h38]
      by_cases h39 : v3 = 39
      · rw [if_pos h39]
        simp only [x1, sb, lt_def]
        exact fin_A (K := fun M2 => law_L SL xs fu (nI k + 6) M2) (s_count R _) ih
      rw [if_neg h39]
      rw [lt_def]
      exact ih M R
    · have c : (Int32.ofNat SL) - (6 : Int32) < nI k := by
        apply Int32.lt_iff_toInt_lt.mpr
        rw [e6, ek]
        omega
      rw [if_pos c]
end PUR
theorem pure_law (SL : Nat) (hSL : SL ≤ 3072) (xs : Nat → Int32) (M : Mem) : ∃ M1 M2, cf_0 (nM M 0) = some M1 ∧ cf_67 (nM M1 67) = some M2 ∧ law_L SL xs FU 0 M2 = some () := by
  obtain ⟨M1, M2, e1, e2, R⟩ := rel_0 (M := M)
  have hFU : FU = 1000000 := rfl
  exact ⟨M1, M2, e1, e2, law_go hSL xs SL FU 0 M2 (by omega) (by omega) (by omega) R⟩

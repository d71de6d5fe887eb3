-- 51.look: pure: look
/-- how many words are left if y is told to glow by g or more -/
def ysN (F : Nat → (Nat → Int32) → Int32) (τ : Nat → Nat → Nat) (ρ : Nat → Nat) (S g y : Nat) : Nat := sumN (fun w => if S.testBit w = true ∧ g ≤ wgN F τ ρ y w then 1 else 0) (tW τ)
def lfV (F : Nat → (Nat → Int32) → Int32) (τ : Nat → Nat → Nat) (ρ : Nat → Nat) (S g y : Nat) : Int32 := if nI (ysN F τ ρ S g y) < nI (popN S) - nI (ysN F τ ρ S g y) then nI (popN S) - nI (ysN F τ ρ S g y) else nI (ysN F τ ρ S g y)
def lkS (f : Nat → Int32) (y : Nat) : Option (Nat × Int32) → Option (Nat × Int32)
  | none => some (y, f y)
  | some q => if f y < q.2 then some (y, f y) else some q
def lkO (f : Nat → Int32) (ρ : Nat → Nat) : Nat → Option (Nat × Int32)
  | 0 => none
  | y + 1 => if ρ (12 + y) = 0 then lkS f y (lkO f ρ y) else lkO f ρ y
def lkC : Option (Nat × Int32) → Int32 × Int32
  | none => (-2, 6)
  | some q => (nI q.1, q.2)
def lkR : Option (Nat × Int32) → Int32 × Int32
  | none => (-2, 0)
  | some q => (nI q.1, q.2)
theorem lkS_l {f : Nat → Int32} {y : Nat} {q : Nat × Int32} (h : f y < q.2) : lkS f y (some q) = some (y, f y) := if_pos h
theorem lkS_g {f : Nat → Int32} {y : Nat} {q : Nat × Int32} (h : ¬ f y < q.2) : lkS f y (some q) = some q := if_neg h
theorem lk_lt {f : Nat → Int32} {ρ : Nat → Nat} : ∀ n q, lkO f ρ n = some q → q.1 < n
  | 0, q, h => by cases h
  | n + 1, q, h => by
    unfold lkO at h
    by_cases h0 : ρ (12 + n) = 0
    · rw [if_pos h0] at h
      cases hs : lkO f ρ n with
      | none =>
        rw [hs] at h
        cases h
        exact Nat.lt_succ_self n
      | some r =>
        rw [hs] at h
        have hr := lk_lt n r hs
        by_cases hl : f n < r.2
        · rw [lkS_l hl] at h
          cases h
          exact Nat.lt_succ_self n
        · rw [lkS_g hl] at h
          cases h
          omega
    · rw [if_neg h0] at h
      have := lk_lt n q h
      omega
section LOK
variable {F : Nat → (Nat → Int32) → Int32} {τ : Nat → Nat → Nat} {ρ : Nat → Nat} {n t v : Nat} {M : Mem}
theorem ys_le (hw : wfT τ) (S g y : Nat) : ysN F τ ρ S g y ≤ 5 := by
  have hW : tW τ ≤ 5 := hw.2.2.2.1
  have h : ysN F τ ρ S g y ≤ tW τ * 1 := sumN_le (fun k hk => by split <;> omega)
  omega
theorem pop5 {S : Nat} (h : S < 32) : popN S ≤ 5 := by
  have : ∀ S, S < 32 → popN S ≤ 5 := by decide +kernel
  exact this S h
theorem lf_6 (hw : wfT τ) {S : Nat} (hS : S < 32) (g y : Nat) : lfV F τ ρ S g y < 6 := by
  have h1 := ys_le (F := F) (ρ := ρ) hw S g y
  have h2 := pop5 hS
  unfold lfV
  by_cases h : nI (ysN F τ ρ S g y) < nI (popN S) - nI (ysN F τ ρ S g y)
  · rw [if_pos h]
    apply Int32.lt_iff_toInt_lt.mpr
    rw [pk_sub_toInt (by omega) (by omega)]
    show _ < (6 : Int)
    omega
  · rw [if_neg h]
    exact nI_lt' (b := 6) (by omega) (by omega)
theorem c_left {lw y S g : Nat} (C : CX n t τ ρ F M) (hL : isL lw) (hy : y < tY τ) (hS : S < 32) (hg : g ≤ 999) : ∃ M', f_X1_leftAtWorst lw n (nI S) (nI y) (nI g) M = some (lfV F τ ρ S g y, M') ∧ FrD lwS M M' := by
  have hW : tW τ ≤ 5 := C.1.2.2.2.1
  obtain ⟨z, e, q1, q2⟩ := loopQ (fun fu w (s : Int32 × Mem) => f_X1_leftAtWorst_L6 lw n fu (nI S) (nI y) (nI g) s.1 (nI w) s.2) (fun w s => FrD lwS M s.2 ∧ s.1 = nI (sumN (fun w => if S.testBit w = true ∧ g ≤ wgN F τ ρ y w then 1 else 0) w)) (fun z => z.1 = nI (ysN F τ ρ S g y) ∧ FrD lwS M z.2) (tW τ) (by omega) (fun fu s hP => by
      have C' := C.fl hP.1
      refine ⟨s, ?_, hP.2, hP.1⟩
      show f_X1_leftAtWorst_L6 lw n (fu + 1) _ _ _ _ _ _ = _
      rw [f_X1_leftAtWorst_L6, rT_n C'.2.2.2.1.2.1 C'.2.2.1.1, sb, C'.2.2.1.2.2.2.2.1, if_pos (nI_le (Nat.le_refl _) (by omega))]) (fun fu w s hw hP => by
      have C' := C.fl hP.1
      right
      show ∃ s', f_X1_leftAtWorst_L6 lw n (fu + 1) _ _ _ _ _ _ = f_X1_leftAtWorst_L6 lw n fu _ _ _ _ _ _ ∧ _
      rw [f_X1_leftAtWorst_L6, rT_n C'.2.2.2.1.2.1 C'.2.2.1.1, sb, C'.2.2.1.2.2.2.2.1, if_neg (nI_ge hw (by omega)), bit_n (by omega) (by omega), sumN_s]
      by_cases hb : S.testBit w = true
      · obtain ⟨M1, e1, f1⟩ := c_would C' hL hy hw
        have h9 := wgN_le (F := F) (τ := τ) (ρ := ρ) y w
        rw [if_pos hb, if_pos rfl, e1, sb]
        simp only [lt_def]
        by_cases h : wgN F τ ρ y w < g
        · rw [if_pos (nI_lt' h (by omega)), if_neg (fun z => absurd z.2 (by omega)), nI_1]
          exact ⟨(s.1, M1), rfl, hP.1.tr f1, hP.2⟩
        · rw [if_neg (nI_nlt' (nI_le (by omega) (by omega))), if_pos ⟨hb, by omega⟩, hP.2, nI_1, nI_1]
          exact ⟨(_, M1), rfl, hP.1.tr f1, rfl⟩
      · rw [if_neg hb, if_neg (show ¬ (0 : Int32) = 1 by decide), if_neg (fun z => hb z.1), lt_def, nI_1]
        exact ⟨s, rfl, hP.1, hP.2⟩) (0, M) ⟨FrD.rf, rfl⟩
  refine ⟨z.2, ?_, q2⟩
  unfold f_X1_leftAtWorst
  rw [show f_X1_leftAtWorst_L6 lw n FU (nI S) (nI y) (nI g) 0 0 M = some z from e, sb, c_bits (by omega), sb, q1, lt_def]
  rfl
theorem r_left {x4 x5 : Int32} {y S g : Nat} (C : RX v τ ρ F M) (hy : y < tY τ) (hS : S < 32) (hg : g ≤ 999) : ∃ M', f_X12_look_L77 FU (nI g) (nI S) x4 x5 (nI y) 0 0 M = some (nI (ysN F τ ρ S g y), M') ∧ FrN [101, 102] M M' := by
  have hW : tW τ ≤ 5 := C.1.2.2.2.1
  have hv : v ≤ 1 := C.2.2.1.1
  obtain ⟨z, e, q1, q2⟩ := loopQ (fun fu w (s : Int32 × Mem) => f_X12_look_L77 fu (nI g) (nI S) x4 x5 (nI y) s.1 (nI w) s.2) (fun w s => FrN [101, 102] M s.2 ∧ s.1 = nI (sumN (fun w => if S.testBit w = true ∧ g ≤ wgN F τ ρ y w then 1 else 0) w)) (fun z => z.1 = nI (ysN F τ ρ S g y) ∧ FrN [101, 102] M z.2) (tW τ) (by omega) (fun fu s hP => by
      have C' := C.fr hP.1.m (by decide)
      refine ⟨s, ?_, hP.2, hP.1⟩
      show f_X12_look_L77 (fu + 1) _ _ _ _ _ _ _ _ = _
      rw [f_X12_look_L77, C'.2.2.1.2.1, ag_n (by omega) (by omega), sb, C'.2.2.1.2.2.2.2.2.1, if_pos (nI_le (Nat.le_refl _) (by omega))]) (fun fu w s hw hP => by
      have C' := C.fr hP.1.m (by decide)
      right
      show ∃ s', f_X12_look_L77 (fu + 1) _ _ _ _ _ _ _ _ = f_X12_look_L77 fu _ _ _ _ _ _ _ _ ∧ _
      rw [f_X12_look_L77, C'.2.2.1.2.1, ag_n (by omega) (by omega), sb, C'.2.2.1.2.2.2.2.2.1, if_neg (nI_ge hw (by omega)), bit_n (by omega) (by omega), sumN_s]
      by_cases hb : S.testBit w = true
      · obtain ⟨M1, e1, f1⟩ := r_would C' hy hw
        have h9 := wgN_le (F := F) (τ := τ) (ρ := ρ) y w
        rw [if_pos hb, if_pos rfl, e1, sb]
        simp only [lt_def]
        by_cases h : wgN F τ ρ y w < g
        · rw [if_pos (nI_lt' h (by omega)), if_neg (fun z => absurd z.2 (by omega)), nI_1]
          exact ⟨(s.1, M1), rfl, hP.1.tr f1, hP.2⟩
        · rw [if_neg (nI_nlt' (nI_le (by omega) (by omega))), if_pos ⟨hb, by omega⟩, hP.2, nI_1, nI_1]
          exact ⟨(_, M1), rfl, hP.1.tr f1, rfl⟩
      · rw [if_neg hb, if_neg (show ¬ (0 : Int32) = 1 by decide), if_neg (fun z => hb z.1), lt_def, nI_1]
        exact ⟨s, rfl, hP.1, hP.2⟩) (0, M) ⟨FrN.rf, rfl⟩
  refine ⟨z.2, ?_, q2⟩
  rw [show f_X12_look_L77 FU (nI g) (nI S) x4 x5 (nI y) 0 0 M = some z from e, ← q1]
theorem c_most {lw S g : Nat} (C : CX n t τ ρ F M) (hL : isL lw) (hS : S < 32) (hg : g ≤ 999) : ∃ M', f_X1_mostTelling lw n (nI S) (nI g) M = some ((lkC (lkO (lfV F τ ρ S g) ρ (tY τ))).1, M') ∧ FrD lwS M M' := by
  have hY : tY τ ≤ 6 := C.1.2.2.1
  obtain ⟨z, e, q1, q2⟩ := loopQ (fun fu y (s : Int32 × Int32 × Mem) => f_X1_mostTelling_L11 lw n fu (nI S) (nI g) s.1 s.2.1 (nI y) s.2.2) (fun y s => FrD lwS M s.2.2 ∧ s.1 = (lkC (lkO (lfV F τ ρ S g) ρ y)).1 ∧ s.2.1 = (lkC (lkO (lfV F τ ρ S g) ρ y)).2) (fun z => z.1 = (lkC (lkO (lfV F τ ρ S g) ρ (tY τ))).1 ∧ FrD lwS M z.2) (tY τ) (by omega) (fun fu s hP => by
      have C' := C.fl hP.1
      refine ⟨(s.1, s.2.2), ?_, hP.2.1, hP.1⟩
      show f_X1_mostTelling_L11 lw n (fu + 1) _ _ _ _ _ _ = _
      rw [f_X1_mostTelling_L11, rT_n C'.2.2.2.1.2.1 C'.2.2.1.1, sb, C'.2.2.1.2.2.2.1, if_pos (nI_le (Nat.le_refl _) (by omega))]) (fun fu y s hy hP => by
      have C' := C.fl hP.1
      have hb := (C.2.1.2.1 y (by omega)).2.1
      have p1 := hP.2.1
      have p2 := hP.2.2
      right
      show ∃ s', f_X1_mostTelling_L11 lw n (fu + 1) _ _ _ _ _ _ = f_X1_mostTelling_L11 lw n fu _ _ _ _ _ _ ∧ _
      rw [f_X1_mostTelling_L11, rT_n C'.2.2.2.1.2.1 C'.2.2.1.1, sb, C'.2.2.1.2.2.2.1, if_neg (nI_ge hy (by omega)), c_home C'.2.2.2.1 C'.2.1 (by omega), sb]
      by_cases h0 : ρ (12 + y) = 0
      · obtain ⟨M1, e1, f1⟩ := c_left C' hL hy hS hg
        have e6 := lf_6 (F := F) (ρ := ρ) C.1 hS g y
        have es : lkO (lfV F τ ρ S g) ρ (y + 1) = lkS (lfV F τ ρ S g) y (lkO (lfV F τ ρ S g) ρ y) := if_pos h0
        rw [hm_0 h0, if_neg Bool.false_ne_true, if_pos rfl, e1, sb, sb, es]
        rw [lt_def, lt_def, nI_1 y]
        generalize lkO (lfV F τ ρ S g) ρ y = Q at p1 p2
        cases Q with
        | none =>
          rw [if_neg (by
            rw [p2]
            exact Int32.not_le.mpr e6)]
          exact ⟨(_, _, M1), rfl, hP.1.tr f1, rfl, rfl⟩
        | some q =>
          by_cases h : lfV F τ ρ S g y < q.2
          · rw [if_neg (by
              rw [p2]
              exact Int32.not_le.mpr h), lkS_l h]
            exact ⟨(_, _, M1), rfl, hP.1.tr f1, rfl, rfl⟩
          · rw [if_pos (by
              rw [p2]
              exact Int32.not_lt.mp h), lkS_g h]
            exact ⟨(s.1, s.2.1, M1), rfl, hP.1.tr f1, p1, p2⟩
      · have es : lkO (lfV F τ ρ S g) ρ (y + 1) = lkO (lfV F τ ρ S g) ρ y := if_neg h0
        rw [hm_1 (by omega), if_pos rfl, if_neg ne10, sb, if_pos (Int32.le_refl _), lt_def, nI_1, es]
        exact ⟨s, rfl, hP⟩) (-2, 6, M) ⟨FrD.rf, rfl, rfl⟩
  refine ⟨z.2, ?_, q2⟩
  unfold f_X1_mostTelling
  rw [show f_X1_mostTelling_L11 lw n FU (nI S) (nI g) (-2) 6 0 M = some z from e, sb, ← q1]
theorem r_most {S g : Nat} (R : RelP t v τ ρ F M) (C : RX v τ ρ F M) (hS : S < 32) (hS0 : 0 < S) (hg : g ≤ 999) : ∃ M', f_X12_look_L41 FU (nI g) (nI S) (-2) 0 0 M = some ((lkR (lkO (lfV F τ ρ S g) ρ (tY τ))).1, M') ∧ FrN [101, 102] M M' := by
  have hY : tY τ ≤ 6 := C.1.2.2.1
  have hv : v ≤ 1 := C.2.2.1.1
  obtain ⟨z, e, q1, q2⟩ := loopQ (fun fu y (s : Int32 × Int32 × Mem) => f_X12_look_L41 fu (nI g) (nI S) s.1 s.2.1 (nI y) s.2.2) (fun y s => FrN [101, 102] M s.2.2 ∧ s.1 = (lkR (lkO (lfV F τ ρ S g) ρ y)).1 ∧ s.2.1 = (lkR (lkO (lfV F τ ρ S g) ρ y)).2) (fun z => z.1 = (lkR (lkO (lfV F τ ρ S g) ρ (tY τ))).1 ∧ FrN [101, 102] M z.2) (tY τ) (by omega) (fun fu s hP => by
      have C' := C.fr hP.1.m (by decide)
      refine ⟨(s.1, s.2.2), ?_, hP.2.1, hP.1⟩
      show f_X12_look_L41 (fu + 1) _ _ _ _ _ _ = _
      rw [f_X12_look_L41, C'.2.2.1.2.1, ag_n (by omega) (by omega), sb, C'.2.2.1.2.2.2.2.1, if_pos (nI_le (Nat.le_refl _) (by omega))]) (fun fu y s hy hP => by
      have C' := C.fr hP.1.m (by decide)
      have R' := R.fm hP.1.m (by decide)
      have p1 := hP.2.1
      have p2 := hP.2.2
      right
      show ∃ s', f_X12_look_L41 (fu + 1) _ _ _ _ _ _ = f_X12_look_L41 fu _ _ _ _ _ _ ∧ _
      rw [f_X12_look_L41, C'.2.2.1.2.1, ag_n (by omega) (by omega), sb, C'.2.2.1.2.2.2.2.1, if_neg (nI_ge hy (by omega)), if_neg (nI_ne0 hS0 (by omega)), r_isOut_o R'.1 R'.tr R'.nr hy R'.2.1, sb]
      by_cases h0 : ρ (12 + y) = 0
      · obtain ⟨M1, e1, f1⟩ := r_left (x4 := s.1) (x5 := s.2.1) C' hy hS hg
        have es : lkO (lfV F τ ρ S g) ρ (y + 1) = lkS (lfV F τ ρ S g) y (lkO (lfV F τ ρ S g) ρ y) := if_pos h0
        have em : (if nI (ysN F τ ρ S g y) ≤ nI (popN S) - nI (ysN F τ ρ S g y) then (f_X12_bits (nI S)).bind fun v33 => some (v33 - nI (ysN F τ ρ S g y)) else some (nI (ysN F τ ρ S g y))) = some (lfV F τ ρ S g y) := by
          unfold lfV
          rw [r_bits (by omega), sb]
          by_cases h : nI (ysN F τ ρ S g y) < nI (popN S) - nI (ysN F τ ρ S g y)
          · rw [if_pos h, if_pos (Int32.le_of_lt h)]
          · rw [if_neg h]
            by_cases h2 : nI (ysN F τ ρ S g y) ≤ nI (popN S) - nI (ysN F τ ρ S g y)
            · rw [if_pos h2, ← Int32.le_antisymm h2 (Int32.not_lt.mp h)]
            · rw [if_neg h2]
        rw [if_pos h0, if_neg ne10, e1, sb, r_bits (by omega), sb]
        rw [r_bits (by omega)] at em
        rw [em, sb, es]
        simp only [lt_def]
        rw [nI_1 y]
        have hq := lk_lt (f := lfV F τ ρ S g) (ρ := ρ) y
        generalize lkO (lfV F τ ρ S g) ρ y = Q at p1 p2 hq
        cases Q with
        | none =>
          rw [if_pos (by
            rw [p1]
            show (-2 : Int32) < 0
            decide)]
          exact ⟨(_, _, M1), rfl, hP.1.tr f1, rfl, rfl⟩
        | some q =>
          have hq1 := hq q rfl
          rw [if_neg (by
            rw [p1]
            exact nI_pos (by omega))]
          by_cases h : lfV F τ ρ S g y < q.2
          · rw [if_pos (by
              rw [p2]
              exact h), lkS_l h]
            exact ⟨(_, _, M1), rfl, hP.1.tr f1, rfl, rfl⟩
          · rw [if_neg (by
              rw [p2]
              exact h), lkS_g h]
            exact ⟨(s.1, s.2.1, M1), rfl, hP.1.tr f1, p1, p2⟩
      · have es : lkO (lfV F τ ρ S g) ρ (y + 1) = lkO (lfV F τ ρ S g) ρ y := if_neg h0
        rw [if_neg h0, if_pos rfl, lt_def, nI_1, es]
        exact ⟨s, rfl, hP⟩) (-2, 0, M) ⟨FrN.rf, rfl, rfl⟩
  refine ⟨z.2, ?_, q2⟩
  rw [show f_X12_look_L41 FU (nI g) (nI S) (-2) 0 0 M = some z from e, ← q1]
theorem r_most0 {g : Nat} (C : RX v τ ρ F M) : f_X12_look_L41 FU (nI g) 0 (-2) 0 0 M = some (-2, M) := by
  have hY : tY τ ≤ 6 := C.1.2.2.1
  have hv : v ≤ 1 := C.2.2.1.1
  rw [show FU = 999999 + 1 from rfl, f_X12_look_L41, C.2.2.1.2.1, ag_n (by omega) (by omega), sb, C.2.2.1.2.2.2.2.1]
  rw [if_pos (show (0 : Int32) = 0 from rfl), ite_self]
end LOK
theorem s_look {M : Mem} (R : Rel M) (x1 x2 : Int32) : OkB (f_X11_look x1 x2 M) (f_X12_look x1 x2) := by
  have R0 := R
  obtain ⟨t, v, τ, ρ, F, R⟩ := R
  obtain ⟨N, kY, kV, kB, KC, KM⟩ := R.kn
  have e66 : M.1 67 66 = nI N := (KM M rfl rfl rfl rfl).2.1
  have eK : f_X11_isKnown x1 M = f_X12_in x1 0 (nI N) := by rw [← KC.2.1]; rfl
  rcases kn_in (x := x1) KC.1 with h | ⟨k, hk, rfl, h⟩
  · refine ⟨-1, M, M, ?_, ?_, R0⟩
    · unfold f_X11_look
      rw [eK, h, sb, if_pos rfl]
    · unfold f_X12_look
      rw [e66, h, sb, if_pos rfl]
  rcases ar_in x2 (n := 1000) (by omega) with hx | ⟨g, hg, rfl⟩
  · have i1 : f_X12_in x2 0 999 = some 0 := in_o (n := 1000) (by omega) hx
    refine ⟨-1, M, M, ?_, ?_, R0⟩
    · unfold f_X11_look
      rw [eK, h, sb, if_neg ne10, glow_in, i1, sb, if_pos rfl]
    · unfold f_X12_look
      rw [e66, h, sb, if_neg ne10, i1, sb, if_pos rfl]
  have i1 : f_X12_in (nI g) 0 999 = some 1 := in_i (n := 1000) hg (by omega)
  obtain ⟨M1, e1, f1⟩ := c_fits R.cx KC isL_31 hk
  have R1 := R.fl f1
  have h32 := fm_lt (F := F) (ρ := ρ) (kY := kY) (kV := kV) (kB := kB) R.1 k
  have KK : ∀ Q Q', FrD lwS M Q → FrM [104] Q Q' → KnM N τ kY kV kB Q' := fun Q Q' a b => KM Q' ((b.2.1 66 (by decide) (by decide) (by decide)).trans (by rw [a.1 67 (by decide)])) ((b.1 113 (by decide) (by decide)).trans (a.1 113 (by decide))) ((b.1 114 (by decide) (by decide)).trans (a.1 114 (by decide))) ((b.1 115 (by decide) (by decide)).trans (a.1 115 (by decide)))
  by_cases hz : fmN F τ ρ kY kV kB k = 0
  · obtain ⟨M5, e5, R5, X5, f5, -, -⟩ := R1.rx
    obtain ⟨M6, e6, f6⟩ := r_fits X5 (KK M1 M5 f1 f5) hk
    have e61 : M1.1 67 66 = nI N := by rw [f1.1 67 (by decide)]; exact e66
    refine ⟨-2, M1, M6, ?_, ?_, (R5.fm f6.m (by decide)).rel⟩
    · unfold f_X11_look
      rw [eK, h, sb, if_neg ne10, glow_in, i1, sb, if_neg ne10, e1, sb, hz, if_pos nI_0]
    · unfold f_X12_look f_X12_wordBits
      rw [e61, h, sb, if_neg ne10, i1, sb, if_neg ne10, e5, sb, e6, sb, sb, hz, show nI 0 = (0 : Int32) from rfl, r_most0 (X5.fr f6.m (by decide)), sb]
  · obtain ⟨M2, e2, f2⟩ := c_most (R.cx.fl f1) isL_31 h32 (g := g) (by omega)
    have R2 := R1.fl f2
    obtain ⟨M5, e5, R5, X5, f5, -, -⟩ := R2.rx
    obtain ⟨M6, e6, f6⟩ := r_fits X5 (KK M2 M5 (f1.tr f2) f5) hk
    have R6 := R5.fm f6.m (by decide)
    obtain ⟨M7, e7, f7⟩ := r_most R6 (X5.fr f6.m (by decide)) h32 (by omega) (g := g) (by omega)
    have e61 : M2.1 67 66 = nI N := by rw [(f1.tr f2).1 67 (by decide)]; exact e66
    have eq : ∀ Q : Option (Nat × Int32), (lkC Q).1 = (lkR Q).1 := fun Q => by cases Q <;> rfl
    refine ⟨(lkC (lkO (lfV F τ ρ (fmN F τ ρ kY kV kB k) g) ρ (tY τ))).1, M2, M7, ?_, ?_, (R6.fm f7.m (by decide)).rel⟩
    · unfold f_X11_look
      rw [eK, h, sb, if_neg ne10, glow_in, i1, sb, if_neg ne10, e1, sb, if_neg (nI_ne0 (by omega) (by omega)), e2, sb]
    · unfold f_X12_look f_X12_wordBits
      rw [e61, h, sb, if_neg ne10, i1, sb, if_neg ne10, e5, sb, e6, sb, sb, e7, sb, eq]

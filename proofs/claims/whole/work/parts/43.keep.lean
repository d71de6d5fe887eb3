-- 43.keep: pure: the first one out, keep
theorem out_cases (ρ : Nat → Nat) (n : Nat) : (∀ y, y < n → ρ (12 + y) ≠ 0) ∨ ∃ y, y < n ∧ ρ (12 + y) = 0 ∧ ∀ j, j < y → ρ (12 + j) ≠ 0 := by
  by_cases h : ∃ y, y < n ∧ ρ (12 + y) = 0
  · right
    obtain ⟨y, hy, hl⟩ := pk_least (fun y => y < n ∧ ρ (12 + y) = 0) h
    exact ⟨y, hy.1, hy.2, fun j hj z => hl j hj ⟨by omega, z⟩⟩
  · left
    exact fun y hy z => h ⟨y, hy, z⟩
section FOU
variable {n t v : Nat} {τ : Nat → Nat → Nat} {ρ : Nat → Nat} {F : Nat → (Nat → Int32) → Int32} {M : Mem}
theorem c_fo (hw : wfT τ) (hT : TC t τ M) (hN : NC n t τ ρ M) (wn : wfN τ ρ) (a : Int32) (h : ((∀ y, y < tY τ → ρ (12 + y) ≠ 0) ∧ a = -1) ∨ ∃ y, y < tY τ ∧ ρ (12 + y) = 0 ∧ (∀ j, j < y → ρ (12 + j) ≠ 0) ∧ a = nI y) : f_X3_firstOut n M = some a := by
  have hY : tY τ ≤ 6 := hw.2.2.1
  obtain ⟨b, e, q⟩ := loopQ (fun fu y (_ : Unit) => f_X3_firstOut_L2 n (fun _ => some (-1)) fu (nI y) M) (fun y _ => ∀ j, j < y → ρ (12 + j) ≠ 0) (fun b => b = a) (tY τ) (by omega) (fun fu s hP => by
      refine ⟨-1, ?_, ?_⟩
      · show f_X3_firstOut_L2 n _ (fu + 1) _ _ = _
        rw [f_X3_firstOut_L2, rT_n hN.2.1 hT.1, sb, hT.2.2.2.1, if_pos (nI_le (Nat.le_refl _) (by omega))]
      · rcases h with h | ⟨y, h1, h2, -⟩
        · exact h.2.symm
        · exact absurd h2 (hP y h1)) (fun fu y s hy hP => by
      have hb := (wn.2.1 y (by omega)).2.1
      show (∃ b, f_X3_firstOut_L2 n _ (fu + 1) _ _ = some b ∧ _) ∨ ∃ s', f_X3_firstOut_L2 n _ (fu + 1) _ _ = f_X3_firstOut_L2 n _ fu _ _ ∧ _
      rw [f_X3_firstOut_L2, rT_n hN.2.1 hT.1, sb, hT.2.2.2.1, if_neg (nI_ge hy (by omega)), c_home hN wn (by omega), sb]
      by_cases h0 : ρ (12 + y) = 0
      · left
        refine ⟨nI y, by rw [hm_0 h0, if_neg Bool.false_ne_true, if_pos rfl], ?_⟩
        rcases h with h | ⟨z, h1, h2, h3, h4⟩
        · exact absurd h0 (h.1 y hy)
        · have : y = z := by
            rcases Nat.lt_trichotomy y z with q | q | q
            · exact absurd h0 (h3 y q)
            · exact q
            · exact absurd h2 (hP z q)
          rw [h4, this]
      · right
        refine ⟨(), by rw [hm_1 (by omega), if_pos rfl, if_neg ne10, lt_def, nI_1], fun j hj => ?_⟩
        by_cases e : j = y
        · rw [e]; exact h0
        · exact hP j (by omega)) () (fun j hj => absurd hj (by omega))
  unfold f_X3_firstOut
  rw [show f_X3_firstOut_L2 n (fun _ => some (-1)) FU 0 M = some b from e, q]
theorem r_isOut_o {y : Nat} (hw : wfT τ) (hV : TR v τ M) (hM : NR 103 τ ρ M) (hy : y < tY τ) (wn : wfN τ ρ) : f_X12_isOut (nI y) M = some (if ρ (12 + y) = 0 then 1 else 0) := by
  have hY : tY τ ≤ 6 := hw.2.2.1
  have hb := (wn.2.1 y (by omega)).2.1
  unfold f_X12_isOut
  rw [r_isYoung_i hw hV hy, sb, if_neg ne10, li 12, nI_add, ag_n (by omega) (by omega), sb, hM.1 (12 + y) (by omega) (by omega)]
  by_cases h : ρ (12 + y) = 0
  · rw [if_pos h, h, if_pos nI_0]
  · rw [if_neg h, if_neg (nI_ne0 (by omega) (by omega))]
theorem r_fo (hw : wfT τ) (hV : TR v τ M) (hM : NR 103 τ ρ M) (wn : wfN τ ρ) (a : Int32) (h : ((∀ y, y < tY τ → ρ (12 + y) ≠ 0) ∧ a = -1) ∨ ∃ y, y < tY τ ∧ ρ (12 + y) = 0 ∧ (∀ j, j < y → ρ (12 + j) ≠ 0) ∧ a = nI y) : f_X12_firstOut M = some a := by
  have hY : tY τ ≤ 6 := hw.2.2.1
  have hv : v ≤ 1 := hV.1
  obtain ⟨b, e, q⟩ := loopQ (fun fu y (_ : Unit) => f_X12_firstOut_L2 (fun _ => some (-1)) fu (nI y) M) (fun y _ => ∀ j, j < y → ρ (12 + j) ≠ 0) (fun b => b = a) (tY τ) (by omega) (fun fu s hP => by
      refine ⟨-1, ?_, ?_⟩
      · show f_X12_firstOut_L2 _ (fu + 1) _ _ = _
        rw [f_X12_firstOut_L2, hV.2.1, ag_n (by omega) (by omega), sb, hV.2.2.2.2.1, if_pos (nI_le (Nat.le_refl _) (by omega))]
      · rcases h with h | ⟨y, h1, h2, -⟩
        · exact h.2.symm
        · exact absurd h2 (hP y h1)) (fun fu y s hy hP => by
      show (∃ b, f_X12_firstOut_L2 _ (fu + 1) _ _ = some b ∧ _) ∨ ∃ s', f_X12_firstOut_L2 _ (fu + 1) _ _ = f_X12_firstOut_L2 _ fu _ _ ∧ _
      rw [f_X12_firstOut_L2, hV.2.1, ag_n (by omega) (by omega), sb, hV.2.2.2.2.1, if_neg (nI_ge hy (by omega)), r_isOut_o hw hV hM hy wn, sb]
      by_cases h0 : ρ (12 + y) = 0
      · left
        refine ⟨nI y, by rw [if_pos h0, if_neg ne10], ?_⟩
        rcases h with h | ⟨z, h1, h2, h3, h4⟩
        · exact absurd h0 (h.1 y hy)
        · have : y = z := by
            rcases Nat.lt_trichotomy y z with q | q | q
            · exact absurd h0 (h3 y q)
            · exact q
            · exact absurd h2 (hP z q)
          rw [h4, this]
      · right
        refine ⟨(), by rw [if_neg h0, if_pos rfl, lt_def, nI_1], fun j hj => ?_⟩
        by_cases e : j = y
        · rw [e]; exact h0
        · exact hP j (by omega)) () (fun j hj => absurd hj (by omega))
  unfold f_X12_firstOut
  rw [show f_X12_firstOut_L2 (fun _ => some (-1)) FU 0 M = some b from e, q]
/-- what a reference question carries along -/
theorem RelP.nr (R : RelP t v τ ρ F M) : NR 103 τ ρ M := R.2.2.2.2.2.1
theorem RelP.tr (R : RelP t v τ ρ F M) : TR v τ M := R.2.2.2.1
theorem r_keep0 (R : RelP t v τ ρ F M) (h : (∀ y, y < tY τ → ρ (12 + y) ≠ 0) ∨ tW τ = 0) : f_X12_keep_L9 FU (-2) 0 M = some (-2, M) := by
  have hW : tW τ ≤ 5 := R.1.2.2.2.1
  have hv : v ≤ 1 := R.tr.1
  rw [show FU = 999999 + 1 from rfl, f_X12_keep_L9, R.tr.2.1, ag_n (by omega) (by omega), sb, R.tr.2.2.2.2.2.1]
  by_cases hz : tW τ = 0
  · rw [hz, if_pos (by decide)]
  · rw [if_neg (nI_nle (by omega) (by omega)), r_fo R.1 R.tr R.nr R.2.1 (-1) (Or.inl ⟨h.resolve_right hz, rfl⟩), sb, if_pos (by decide)]
theorem r_keepBy {y w : Nat} (R : RelP t v τ ρ F M) (C : RX v τ ρ F M) (hw : w < tW τ) (hy : y < tY τ) (h0 : ρ (12 + y) = 0) (hj : ∀ j, j < y → ρ (12 + j) ≠ 0) : ∃ M', f_X12_keepBy (nI w) M = some (nI (ρ (36 + w)) - nI (waN F τ ρ y w), M') ∧ FrN [101, 102] M M' := by
  have hW : tW τ ≤ 5 := R.1.2.2.2.1
  obtain ⟨M1, e1, f1⟩ := r_wears C hy hw
  refine ⟨M1, ?_, f1⟩
  unfold f_X12_keepBy
  rw [li 36, nI_add, ag_n (by omega) (by omega), sb, C.2.2.2.1.1 (36 + w) (by omega) (by omega), r_fo R.1 R.tr R.nr R.2.1 (nI y) (Or.inr ⟨y, hy, h0, hj, rfl⟩), sb, e1, sb]
theorem r_keep1 {y : Nat} (R : RelP t v τ ρ F M) (C : RX v τ ρ F M) (hz : 0 < tW τ) (hy : y < tY τ) (h0 : ρ (12 + y) = 0) (hj : ∀ j, j < y → ρ (12 + j) ≠ 0) : ∃ M', f_X12_keep_L9 FU (-2) 0 M = some (nI (amx (fun w => nI (ρ (36 + w)) - nI (waN F τ ρ y w)) (tW τ)), M') ∧ FrN [101, 102] M M' := by
  have hW : tW τ ≤ 5 := C.1.2.2.2.1
  have hv : v ≤ 1 := C.2.2.1.1
  obtain ⟨f, hf⟩ : ∃ f : Nat → Int32, f = fun w => nI (ρ (36 + w)) - nI (waN F τ ρ y w) := ⟨_, rfl⟩
  have ef : ∀ w, nI (ρ (36 + w)) - nI (waN F τ ρ y w) = f w := fun w => by rw [hf]
  rw [← hf]
  obtain ⟨a, e, q1, q2⟩ := loopQ (fun fu w (s : Int32 × Mem) => f_X12_keep_L9 fu s.1 (nI w) s.2) (fun w s => FrN [101, 102] M s.2 ∧ s.1 = if w = 0 then -2 else nI (amx f w)) (fun a => a.1 = nI (amx f (tW τ)) ∧ FrN [101, 102] M a.2) (tW τ) (by omega) (fun fu s hP => by
      have C' := C.fr hP.1.m (by decide)
      refine ⟨s, ?_, hP.2.trans (if_neg (by omega)), hP.1⟩
      show f_X12_keep_L9 (fu + 1) _ _ _ = _
      rw [f_X12_keep_L9, C'.2.2.1.2.1, ag_n (by omega) (by omega), sb, C'.2.2.1.2.2.2.2.2.1, if_pos (nI_le (Nat.le_refl _) (by omega))]) (fun fu w s hw hP => by
      have C' := C.fr hP.1.m (by decide)
      have R' := R.fm hP.1.m (by decide)
      right
      show ∃ s', f_X12_keep_L9 (fu + 1) _ _ _ = f_X12_keep_L9 fu _ _ _ ∧ _
      rw [f_X12_keep_L9, C'.2.2.1.2.1, ag_n (by omega) (by omega), sb, C'.2.2.1.2.2.2.2.2.1, if_neg (nI_ge hw (by omega)), r_fo R'.1 R'.tr R'.nr R'.2.1 (nI y) (Or.inr ⟨y, hy, h0, hj, rfl⟩), sb, if_neg (nI_pos (by have := R.1.2.2.1; omega)), hP.2]
      by_cases hz : w = 0
      · rw [if_pos hz, if_pos (by decide), lt_def, nI_1]
        refine ⟨(nI w, s.2), rfl, hP.1, ?_⟩
        subst hz
        rw [if_neg (by omega), amx_s]
        split <;> rfl
      · have hm := amx_lt (f := f) (n := w) (by omega)
        obtain ⟨M1, e1, f1⟩ := r_keepBy R' C' hw hy h0 hj
        have C1 := C'.fr f1.m (by decide)
        have R1 := R'.fm f1.m (by decide)
        obtain ⟨M2, e2, f2⟩ := r_keepBy (w := amx f w) R1 C1 (by omega) hy h0 hj
        rw [if_neg hz, if_neg (nI_pos (by omega)), e1, sb, e2, sb, ef, ef, lt_def, lt_def, nI_1]
        by_cases h : f w ≤ f (amx f w)
        · rw [if_pos h]
          refine ⟨(nI (amx f w), M2), rfl, (hP.1.tr f1).tr f2, ?_⟩
          rw [if_neg (by omega), amx_s, if_neg (Int32.not_lt.mpr h)]
        · rw [if_neg h]
          refine ⟨(nI w, M2), rfl, (hP.1.tr f1).tr f2, ?_⟩
          rw [if_neg (by omega), amx_s, if_pos (Int32.not_le.mp h)]) (-2, M) ⟨FrN.rf, rfl⟩
  refine ⟨a.2, ?_, q2⟩
  rw [show f_X12_keep_L9 FU (-2) 0 M = some a from e, ← q1]
end FOU
theorem s_keep {M : Mem} (R : Rel M) : OkB (f_X11_keep M) f_X12_keep := by
  obtain ⟨t, v, τ, ρ, F, R⟩ := R
  have hw := R.1
  have wn := R.2.1
  have hT : TC t τ M := R.2.2.1
  have hN : NC 60 t τ ρ M := R.2.2.2.2.1
  have h9 : M.2.2 0 9 = some t := R.2.2.2.2.2.2.1.1
  have hY : tY τ ≤ 6 := hw.2.2.1
  have hW : tW τ ≤ 5 := hw.2.2.2.1
  by_cases hz : tW τ = 0
  · obtain ⟨M5, e5, R5, X5, f5, -, -⟩ := R.rx
    obtain ⟨a, ha⟩ : ∃ a, f_X3_firstOut 60 M = some a := by
      rcases out_cases ρ (tY τ) with h | ⟨y, h1, h2, h3⟩
      · exact ⟨_, c_fo hw hT hN wn (-1) (Or.inl ⟨h, rfl⟩)⟩
      · exact ⟨_, c_fo hw hT hN wn (nI y) (Or.inr ⟨y, h1, h2, h3, rfl⟩)⟩
    refine ⟨-2, M, M5, ?_, ?_, R5.rel⟩
    · unfold f_X11_keep
      rw [ha, sb, rT_n h9 hT.1, sb, hT.2.2.2.2.1, hz, if_pos nI_0]
    · unfold f_X12_keep
      rw [e5, sb, r_keep0 R5 (Or.inr hz), sb]
  rcases out_cases ρ (tY τ) with h | ⟨y, h1, h2, h3⟩
  · obtain ⟨M5, e5, R5, X5, f5, -, -⟩ := R.rx
    refine ⟨-2, M, M5, ?_, ?_, R5.rel⟩
    · unfold f_X11_keep
      rw [c_fo hw hT hN wn (-1) (Or.inl ⟨h, rfl⟩), sb, rT_n h9 hT.1, sb, hT.2.2.2.2.1, if_neg (nI_ne0 (by omega) (by omega)), if_pos rfl]
    · unfold f_X12_keep
      rw [e5, sb, r_keep0 R5 (Or.inl h), sb]
  · obtain ⟨M1, c1, f1⟩ := c_lasting R.cx isL_31 h1
    have R1 := R.fl f1
    obtain ⟨M5, e5, R5, X5, f5, -, -⟩ := R1.rx
    obtain ⟨M6, e6, f6⟩ := r_keep1 R5 X5 (by omega) h1 h2 h3
    refine ⟨nI (amx (fun w => nI (ρ (36 + w)) - nI (waN F τ ρ y w)) (tW τ)), M1, M6, ?_, ?_, (R5.fm f6.m (by decide)).rel⟩
    · unfold f_X11_keep
      rw [c_fo hw hT hN wn (nI y) (Or.inr ⟨y, h1, h2, h3, rfl⟩), sb, rT_n h9 hT.1, sb, hT.2.2.2.2.1, if_neg (nI_ne0 (by omega) (by omega)), if_neg (fun z => nI_pos (n := y) (by omega) (by rw [z]; decide)), c1, sb]
    · unfold f_X12_keep
      rw [e5, sb, e6, sb]

-- 50.known: pure: words, look
def alB (p : Nat → Bool) : Nat → Bool
  | 0 => true
  | n + 1 => alB p n && p n
theorem alB_f {p : Nat → Bool} {y : Nat} (h : p y = false) : ∀ {k}, y < k → alB p k = false
  | 0, hy => absurd hy (by omega)
  | k + 1, hy => by
    by_cases e : y = k
    · subst e
      rw [alB, h, Bool.and_false]
    · rw [alB, alB_f h (by omega), Bool.false_and]
/-- what is told by i holds of w -/
def fiB (F : Nat → (Nat → Int32) → Int32) (τ : Nat → Nat → Nat) (ρ : Nat → Nat) (kY kV kB : Nat → Nat) (w i : Nat) : Bool := decide (kV i ≤ wgN F τ ρ (kY i) w) == (kB i == 1)
def fmN (F : Nat → (Nat → Int32) → Int32) (τ : Nat → Nat → Nat) (ρ : Nat → Nat) (kY kV kB : Nat → Nat) (k : Nat) : Nat := mskN (fun w => alB (fiB F τ ρ kY kV kB w) k) (tW τ)
def KnC (n : Nat) (τ : Nat → Nat → Nat) (kY kV kB : Nat → Nat) (M : Mem) : Prop := n ≤ 20 ∧ M.1 53 0 = nI n ∧ ∀ i, i < n → kY i < tY τ ∧ kV i ≤ 999 ∧ kB i ≤ 1 ∧ M.1 54 i = nI (kY i) ∧ M.1 55 i = nI (kV i) ∧ M.1 56 i = nI (kB i)
def KnM (n : Nat) (τ : Nat → Nat → Nat) (kY kV kB : Nat → Nat) (M : Mem) : Prop := n ≤ 20 ∧ M.1 67 66 = nI n ∧ ∀ i, i < n → kY i < tY τ ∧ kV i ≤ 999 ∧ kB i ≤ 1 ∧ M.1 113 i = nI (kY i) ∧ M.1 114 i = nI (kV i) ∧ M.1 115 i = nI (kB i)
section KNW
variable {F : Nat → (Nat → Int32) → Int32} {τ : Nat → Nat → Nat} {ρ : Nat → Nat} {kY kV kB : Nat → Nat} {n t v N : Nat} {M M' : Mem}
theorem KnC.fl (h : KnC N τ kY kV kB M) (f : FrD lwS M M') : KnC N τ kY kV kB M' := by
  unfold KnC at h ⊢
  rw [f.1 53 (by decide), f.1 54 (by decide), f.1 55 (by decide), f.1 56 (by decide)]
  exact h
theorem KnM.fr {S : List Nat} (h : KnM N τ kY kV kB M) (f : FrM S M M') (hS : ∀ a ∈ [113, 114, 115], a ∉ S) : KnM N τ kY kV kB M' := by
  unfold KnM at h ⊢
  rw [f.2.1 66 (by decide) (by decide) (by decide), f.1 113 (hS _ (by decide)) (by decide), f.1 114 (hS _ (by decide)) (by decide), f.1 115 (hS _ (by decide)) (by decide)]
  exact h
theorem RelP.kn (R : RelP t v τ ρ F M) : ∃ N kY kV kB, KnC N τ kY kV kB M ∧ ∀ M', M'.1 67 66 = M.1 67 66 → M'.1 113 = M.1 113 → M'.1 114 = M.1 114 → M'.1 115 = M.1 115 → KnM N τ kY kV kB M' := by
  obtain ⟨k, hk, k1, k2, k3⟩ := R.2.2.2.2.2.2.2.2.2.1
  have hY : tY τ ≤ 6 := R.1.2.2.1
  refine ⟨k, fun i => (M.1 54 i).toNatClampNeg, fun i => (M.1 55 i).toNatClampNeg, fun i => (M.1 56 i).toNatClampNeg, ⟨hk, k1, fun i hi => ?_⟩, fun M' e1 e2 e3 e4 => ⟨hk, e1.trans k2, fun i hi => ?_⟩⟩
  · obtain ⟨y, w, b, a1, a2, a3, a4, a5, a6, a7, a8, a9⟩ := k3 i hi
    show (M.1 54 i).toNatClampNeg < _ ∧ (M.1 55 i).toNatClampNeg ≤ _ ∧ (M.1 56 i).toNatClampNeg ≤ _ ∧ M.1 54 i = nI (M.1 54 i).toNatClampNeg ∧ M.1 55 i = nI (M.1 55 i).toNatClampNeg ∧ M.1 56 i = nI (M.1 56 i).toNatClampNeg
    rw [a4, a6, a8, nI_clamp (by omega), nI_clamp (by omega), nI_clamp (by omega)]
    exact ⟨a1, a2, a3, rfl, rfl, rfl⟩
  · obtain ⟨y, w, b, a1, a2, a3, a4, a5, a6, a7, a8, a9⟩ := k3 i hi
    show (M.1 54 i).toNatClampNeg < _ ∧ (M.1 55 i).toNatClampNeg ≤ _ ∧ (M.1 56 i).toNatClampNeg ≤ _ ∧ M'.1 113 i = nI (M.1 54 i).toNatClampNeg ∧ M'.1 114 i = nI (M.1 55 i).toNatClampNeg ∧ M'.1 115 i = nI (M.1 56 i).toNatClampNeg
    rw [e2, e3, e4, a4, a5, a6, a7, a8, a9, nI_clamp (by omega), nI_clamp (by omega), nI_clamp (by omega)]
    exact ⟨a1, a2, a3, rfl, rfl, rfl⟩
theorem fi_c {w i : Nat} (hv : kV i ≤ 999) (hb : kB i ≤ 1) : ((if nI (wgN F τ ρ (kY i) w) < nI (kV i) then (0 : Int32) else 1) = if nI (kB i) = 1 then 1 else 0) ↔ fiB F τ ρ kY kV kB w i = true := by
  have h9 := wgN_le (F := F) (τ := τ) (ρ := ρ) (kY i) w
  unfold fiB
  rcases (by omega : kB i = 0 ∨ kB i = 1) with e | e
  · rw [e, if_neg (show ¬ nI 0 = 1 by decide)]
    by_cases h : wgN F τ ρ (kY i) w < kV i
    · rw [if_pos (nI_lt' h (by omega)), decide_eq_false (by omega)]
      exact ⟨fun _ => rfl, fun _ => rfl⟩
    · rw [if_neg (nI_nlt' (nI_le (by omega) (by omega))), decide_eq_true (by omega)]
      exact ⟨fun z => absurd z (by decide), fun z => absurd z (by decide)⟩
  · rw [e, if_pos (show nI 1 = 1 from rfl)]
    by_cases h : wgN F τ ρ (kY i) w < kV i
    · rw [if_pos (nI_lt' h (by omega)), decide_eq_false (by omega)]
      exact ⟨fun z => absurd z (by decide), fun z => absurd z (by decide)⟩
    · rw [if_neg (nI_nlt' (nI_le (by omega) (by omega))), decide_eq_true (by omega)]
      exact ⟨fun _ => rfl, fun _ => rfl⟩
theorem c_fit1 {lw w k : Nat} (C : CX n t τ ρ F M) (K : KnC N τ kY kV kB M) (hL : isL lw) (hw : w < tW τ) (hk : k ≤ N) : ∃ M', f_X1_isFitting lw n (nI k) (nI w) M = some (if alB (fiB F τ ρ kY kV kB w) k then 1 else 0, M') ∧ FrD lwS M M' := by
  have hN : N ≤ 20 := K.1
  have hY : tY τ ≤ 6 := C.1.2.2.1
  obtain ⟨z, e, q1, q2⟩ := loopQ (fun fu y (s : Mem) => f_X1_isFitting_L3 lw n (fun t14 => some ((1 : Int32), t14)) fu (nI k) (nI w) (nI y) s) (fun y s => FrD lwS M s ∧ alB (fiB F τ ρ kY kV kB w) y = true) (fun z => z.1 = (if alB (fiB F τ ρ kY kV kB w) k then 1 else 0) ∧ FrD lwS M z.2) k (by omega) (fun fu s hP => by
      refine ⟨(1, s), ?_, ?_, hP.1⟩
      · show f_X1_isFitting_L3 lw n _ (fu + 1) _ _ _ _ = _
        rw [f_X1_isFitting_L3, if_pos (nI_le (Nat.le_refl _) (by omega))]
      · rw [if_pos hP.2]) (fun fu y s hy hP => by
      have C' := C.fl hP.1
      have K' := K.fl hP.1
      obtain ⟨a1, a2, a3, a4, a5, a6⟩ := K'.2.2 y (by omega)
      obtain ⟨M1, e1, f1⟩ := c_would C' hL a1 hw
      obtain ⟨-, -, -, -, b5, b6⟩ := (K'.fl f1).2.2 y (by omega)
      show (∃ a, f_X1_isFitting_L3 lw n _ (fu + 1) _ _ _ _ = some a ∧ _) ∨ ∃ s', f_X1_isFitting_L3 lw n _ (fu + 1) _ _ _ _ = f_X1_isFitting_L3 lw n _ fu _ _ _ _ ∧ _
      rw [f_X1_isFitting_L3, if_neg (nI_ge hy (by omega)), K'.2.1, if_neg (nI_ge (by omega) (by omega)), ag_n (by omega) (by omega), sb, a4, e1, sb, ag_n (by omega) (by omega), sb, b5, lt_def, ag_n (by omega) (by omega), sb, b6]
      simp only [lt_def]
      by_cases h : fiB F τ ρ kY kV kB w y = true
      · right
        rw [if_pos ((fi_c a2 a3).mpr h), nI_1]
        exact ⟨M1, rfl, hP.1.tr f1, by rw [alB, hP.2, h]; rfl⟩
      · left
        rw [if_neg (fun z => h ((fi_c a2 a3).mp z))]
        exact ⟨(0, M1), rfl, by rw [alB_f (by simpa using h) hy]; rfl, hP.1.tr f1⟩) M ⟨FrD.rf, rfl⟩
  refine ⟨z.2, ?_, q2⟩
  unfold f_X1_isFitting
  rw [show f_X1_isFitting_L3 lw n (fun t14 => some ((1 : Int32), t14)) FU (nI k) (nI w) 0 M = some z from e, ← q1]
theorem c_fits {lw k : Nat} (C : CX n t τ ρ F M) (K : KnC N τ kY kV kB M) (hL : isL lw) (hk : k ≤ N) : ∃ M', f_X1_fitting lw n (nI k) M = some (nI (fmN F τ ρ kY kV kB k), M') ∧ FrD lwS M M' := by
  have hW : tW τ ≤ 5 := C.1.2.2.2.1
  obtain ⟨z, e, q1, q2⟩ := loopQ (fun fu w (s : Int32 × Mem) => f_X1_fitting_L6 lw n fu (nI k) s.1 (nI w) s.2) (fun w s => FrD lwS M s.2 ∧ s.1 = nI (mskN (fun w => alB (fiB F τ ρ kY kV kB w) k) w)) (fun z => z.1 = nI (fmN F τ ρ kY kV kB k) ∧ FrD lwS M z.2) (tW τ) (by omega) (fun fu s hP => by
      have C' := C.fl hP.1
      refine ⟨s, ?_, hP.2, hP.1⟩
      show f_X1_fitting_L6 lw n (fu + 1) _ _ _ _ = _
      rw [f_X1_fitting_L6, rT_n C'.2.2.2.1.2.1 C'.2.2.1.1, sb, C'.2.2.1.2.2.2.2.1, if_pos (nI_le (Nat.le_refl _) (by omega))]) (fun fu w s hw hP => by
      have C' := C.fl hP.1
      obtain ⟨M1, e1, f1⟩ := c_fit1 C' (K.fl hP.1) hL hw hk
      right
      show ∃ s', f_X1_fitting_L6 lw n (fu + 1) _ _ _ _ = f_X1_fitting_L6 lw n fu _ _ _ _ ∧ _
      rw [f_X1_fitting_L6, rT_n C'.2.2.2.1.2.1 C'.2.2.1.1, sb, C'.2.2.1.2.2.2.2.1, if_neg (nI_ge hw (by omega)), e1, sb, mskN_s, hP.2]
      simp only [lt_def]
      cases alB (fiB F τ ρ kY kV kB w) k
      · rw [if_neg Bool.false_ne_true, if_pos rfl, nI_1]
        exact ⟨(_, M1), rfl, hP.1.tr f1, rfl⟩
      · rw [if_pos rfl, if_neg ne10, nI_1, msk_or (by omega)]
        exact ⟨(_, M1), rfl, hP.1.tr f1, rfl⟩) (0, M) ⟨FrD.rf, rfl⟩
  refine ⟨z.2, ?_, q2⟩
  unfold f_X1_fitting
  rw [show f_X1_fitting_L6 lw n FU (nI k) 0 0 M = some z from e, sb, ← q1]
theorem r_fit1 {x2 : Int32} {w k : Nat} (C : RX v τ ρ F M) (K : KnM N τ kY kV kB M) (hw : w < tW τ) (hk : k ≤ N) : ∃ M', f_X12_wordBits_L27 FU (nI k) x2 (nI w) 1 0 M = some (if alB (fiB F τ ρ kY kV kB w) k then 1 else 0, M') ∧ FrN [101, 102] M M' := by
  have hN : N ≤ 20 := K.1
  have hY : tY τ ≤ 6 := C.1.2.2.1
  obtain ⟨z, e, q1, q2⟩ := loopQ (fun fu y (s : Int32 × Mem) => f_X12_wordBits_L27 fu (nI k) x2 (nI w) s.1 (nI y) s.2) (fun y s => FrN [101, 102] M s.2 ∧ s.1 = if alB (fiB F τ ρ kY kV kB w) y then 1 else 0) (fun z => z.1 = (if alB (fiB F τ ρ kY kV kB w) k then 1 else 0) ∧ FrN [101, 102] M z.2) k (by omega) (fun fu s hP => by
      refine ⟨s, ?_, hP.2, hP.1⟩
      show f_X12_wordBits_L27 (fu + 1) _ _ _ _ _ _ = _
      rw [f_X12_wordBits_L27, if_pos (nI_le (Nat.le_refl _) (by omega))]) (fun fu y s hy hP => by
      have C' := C.fr hP.1.m (by decide)
      have K' := K.fr hP.1.m (by decide)
      obtain ⟨a1, a2, a3, a4, a5, a6⟩ := K'.2.2 y (by omega)
      obtain ⟨M1, e1, f1⟩ := r_would C' a1 hw
      obtain ⟨-, -, -, -, b5, b6⟩ := (K'.fr f1.m (by decide)).2.2 y (by omega)
      have eb : nI (kB y) = if nI (kB y) = 1 then 1 else 0 := by
        rcases (by omega : kB y = 0 ∨ kB y = 1) with e | e <;> rw [e] <;> rfl
      right
      show ∃ s', f_X12_wordBits_L27 (fu + 1) _ _ _ _ _ _ = f_X12_wordBits_L27 fu _ _ _ _ _ _ ∧ _
      rw [f_X12_wordBits_L27, if_neg (nI_ge hy (by omega)), ag_n (by omega) (by omega), sb, a4, e1, sb, ag_n (by omega) (by omega), sb, b5, lt_def, ag_n (by omega) (by omega), sb, b6]
      simp only [lt_def]
      rw [eb]
      by_cases h : fiB F τ ρ kY kV kB w y = true
      · rw [if_pos ((fi_c a2 a3).mpr h), nI_1]
        exact ⟨(s.1, M1), rfl, hP.1.tr f1, by rw [alB, h, Bool.and_true]; exact hP.2⟩
      · rw [if_neg (fun z => h ((fi_c a2 a3).mp z)), nI_1]
        exact ⟨(0, M1), rfl, hP.1.tr f1, by rw [alB_f (k := y + 1) (by simpa using h) (by omega)]; rfl⟩) (1, M) ⟨FrN.rf, rfl⟩
  refine ⟨z.2, ?_, q2⟩
  rw [show f_X12_wordBits_L27 FU (nI k) x2 (nI w) 1 0 M = some z from e, ← q1]
theorem r_fits {k : Nat} (C : RX v τ ρ F M) (K : KnM N τ kY kV kB M) (hk : k ≤ N) : ∃ M', f_X12_wordBits_L8 FU (nI k) 0 0 M = some (nI (fmN F τ ρ kY kV kB k), M') ∧ FrN [101, 102] M M' := by
  have hW : tW τ ≤ 5 := C.1.2.2.2.1
  have hv : v ≤ 1 := C.2.2.1.1
  obtain ⟨z, e, q1, q2⟩ := loopQ (fun fu w (s : Int32 × Mem) => f_X12_wordBits_L8 fu (nI k) s.1 (nI w) s.2) (fun w s => FrN [101, 102] M s.2 ∧ s.1 = nI (mskN (fun w => alB (fiB F τ ρ kY kV kB w) k) w)) (fun z => z.1 = nI (fmN F τ ρ kY kV kB k) ∧ FrN [101, 102] M z.2) (tW τ) (by omega) (fun fu s hP => by
      have C' := C.fr hP.1.m (by decide)
      refine ⟨s, ?_, hP.2, hP.1⟩
      show f_X12_wordBits_L8 (fu + 1) _ _ _ _ = _
      rw [f_X12_wordBits_L8, C'.2.2.1.2.1, ag_n (by omega) (by omega), sb, C'.2.2.1.2.2.2.2.2.1, if_pos (nI_le (Nat.le_refl _) (by omega))]) (fun fu w s hw hP => by
      have C' := C.fr hP.1.m (by decide)
      obtain ⟨M1, e1, f1⟩ := r_fit1 (x2 := s.1) C' (K.fr hP.1.m (by decide)) hw hk
      right
      show ∃ s', f_X12_wordBits_L8 (fu + 1) _ _ _ _ = f_X12_wordBits_L8 fu _ _ _ _ ∧ _
      rw [f_X12_wordBits_L8, C'.2.2.1.2.1, ag_n (by omega) (by omega), sb, C'.2.2.1.2.2.2.2.2.1, if_neg (nI_ge hw (by omega)), e1, sb, mskN_s, hP.2]
      simp only [lt_def]
      cases alB (fiB F τ ρ kY kV kB w) k
      · rw [if_neg Bool.false_ne_true, if_pos rfl, nI_1]
        exact ⟨(_, M1), rfl, hP.1.tr f1, rfl⟩
      · rw [if_pos rfl, if_neg ne10, nI_1, msk_or (by omega)]
        exact ⟨(_, M1), rfl, hP.1.tr f1, rfl⟩) (0, M) ⟨FrN.rf, rfl⟩
  refine ⟨z.2, ?_, q2⟩
  rw [show f_X12_wordBits_L8 FU (nI k) 0 0 M = some z from e, ← q1]
theorem fm_lt (hw : wfT τ) (k : Nat) : fmN F τ ρ kY kV kB k < 32 := Nat.lt_of_lt_of_le (mskN_lt _ _) (show 2 ^ tW τ ≤ 2 ^ 5 from Nat.pow_le_pow_right (by decide) hw.2.2.2.1)
end KNW
theorem kn_in {x : Int32} {N : Nat} (hN : N ≤ 20) : f_X12_in x 0 (nI N) = some 0 ∨ ∃ k, k ≤ N ∧ x = nI k ∧ f_X12_in x 0 (nI N) = some 1 := by
  rcases ar_in x (n := N + 1) (by omega) with h | ⟨k, hk, rfl⟩
  · left
    have := in_o (n := N + 1) (by omega) h
    rwa [nI_pred] at this
  · right
    have := in_i (n := N + 1) hk (by omega)
    rw [nI_pred] at this
    exact ⟨k, by omega, rfl, this⟩
theorem s_words {M : Mem} (R : Rel M) (x1 x2 : Int32) : OkB (f_X11_words x1 x2 M) (f_X12_words x1 x2) := by
  have R0 := R
  obtain ⟨t, v, τ, ρ, F, R⟩ := R
  obtain ⟨N, kY, kV, kB, KC, KM⟩ := R.kn
  have e66 : M.1 67 66 = nI N := (KM M rfl rfl rfl rfl).2.1
  have eK : f_X11_isKnown x1 M = f_X12_in x1 0 (nI N) := by rw [← KC.2.1]; rfl
  rcases kn_in (x := x1) KC.1 with h | ⟨k, hk, rfl, h⟩
  · refine ⟨-1, M, M, ?_, ?_, R0⟩
    · unfold f_X11_words
      rw [eK, h, sb, if_pos rfl]
    · unfold f_X12_words
      rw [e66, h, sb, if_pos rfl]
  rcases eith x2 with ⟨h01, i1, i2⟩ | ⟨n0, n1, i1, i2⟩
  · obtain ⟨M1, e1, f1⟩ := c_fits R.cx KC isL_31 hk
    have R1 := R.fl f1
    obtain ⟨M5, e5, R5, X5, f5, -, -⟩ := R1.rx
    obtain ⟨M6, e6, f6⟩ := r_fits X5 (KM M5 ((f5.2.1 66 (by decide) (by decide) (by decide)).trans (by rw [f1.1 67 (by decide)])) ((f5.1 113 (by decide) (by decide)).trans (f1.1 113 (by decide))) ((f5.1 114 (by decide) (by decide)).trans (f1.1 114 (by decide))) ((f5.1 115 (by decide) (by decide)).trans (f1.1 115 (by decide)))) hk
    have e61 : M1.1 67 66 = nI N := by rw [f1.1 67 (by decide)]; exact e66
    have h32 := fm_lt (F := F) (ρ := ρ) (kY := kY) (kV := kV) (kB := kB) R.1 k
    have R6 := R5.fm f6.m (by decide)
    rcases h01 with rfl | rfl
    · refine ⟨nI (popN (fmN F τ ρ kY kV kB k)), M1, M6, ?_, ?_, R6.rel⟩
      · unfold f_X11_words
        rw [eK, h, sb, if_neg ne10, i2, sb, if_neg ne10, e1, sb, if_pos rfl, c_bits (by omega), sb]
      · unfold f_X12_words f_X12_wordBits
        rw [e61, h, sb, if_neg ne10, i1, sb, if_neg ne10, e5, sb, e6, sb, sb, if_pos rfl, r_bits (by omega), sb]
    · refine ⟨nI (fmN F τ ρ kY kV kB k), M1, M6, ?_, ?_, R6.rel⟩
      · unfold f_X11_words
        rw [eK, h, sb, if_neg ne10, i2, sb, if_neg ne10, e1, sb, if_neg ne10]
      · unfold f_X12_words f_X12_wordBits
        rw [e61, h, sb, if_neg ne10, i1, sb, if_neg ne10, e5, sb, e6, sb, sb, if_neg ne10]
  · refine ⟨-1, M, M, ?_, ?_, R0⟩
    · unfold f_X11_words
      rw [eK, h, sb, if_neg ne10, i2, sb, if_pos rfl]
    · unfold f_X12_words
      rw [e66, h, sb, if_neg ne10, i1, sb, if_pos rfl]

-- 72.cuts: pure: both cut up the tape alike
section CUQ
variable {b : Nat → Nat} {len : Nat} {kw : Nat → Int64} {M M' : Mem}
/-- the class's tokens below k -/
def TKC (b : Nat → Nat) (len : Nat) (kw : Nat → Int64) (k : Nat) (M : Mem) : Prop := ∀ j, j < k → M.1 25 j = nI (cmN (tK b len kw j)) ∧ M.1 26 j = nI (stN b len j) ∧ (tK b len kw j = 2 → M.2.1 27 j = lN (tV b len j)) ∧ (tK b len kw j = 1 → M.2.1 27 j = tN b len j)
def TKM (b : Nat → Nat) (len : Nat) (kw : Nat → Int64) (k : Nat) (M : Mem) : Prop := ∀ j, j < k → M.1 70 j = nI (tK b len kw j) ∧ M.1 71 j = nI (stN b len j) ∧ (tK b len kw j = 2 → M.1 72 j = nI (tV b len j)) ∧ (tK b len kw j = 1 → M.2.1 73 j = tN b len j)
theorem sg_no (c : Nat) : sgN c ≠ 0 ∧ sgN c ≠ 1 ∧ sgN c ≠ 2 := by
  unfold sgN
  split
  · omega
  split
  · omega
  split
  · omega
  split
  · omega
  split
  · omega
  split
  · omega
  split
  · omega
  split
  · omega
  split <;> omega
theorem sg_lt (c : Nat) : sgN c ≤ 15 := by
  unfold sgN
  split
  · omega
  split
  · omega
  split
  · omega
  split
  · omega
  split
  · omega
  split
  · omega
  split
  · omega
  split
  · omega
  split <;> omega
theorem tk_lt (i : Nat) : tkK b len kw i < 43 := by
  have h1 := sg_lt (b i)
  have k1 := kw_le (kw := kw) (lN (nmN b i (lrN b len i - i))) 23
  unfold tkK
  split
  · omega
  · split
    · split <;> omega
    · split
      · split <;> omega
      · omega
theorem cm_f : ∀ x, x < 43 → (cmN x = 0 ↔ x = 0) ∧ (cmN x = 1 ↔ x = 3) ∧ cmN x < 200 := by decide +kernel
theorem tk_0 {i : Nat} : tkK b len kw i = 0 ↔ len ≤ i := by
  unfold tkK
  by_cases h : len ≤ i
  · rw [if_pos h]; exact ⟨fun _ => h, fun _ => rfl⟩
  · rw [if_neg h]
    have := sg_no (b i)
    have k1 := kw_le (kw := kw) (lN (nmN b i (lrN b len i - i))) 23
    refine ⟨fun z => ?_, fun z => absurd z h⟩
    exfalso
    split at z
    · split at z <;> omega
    · split at z
      · split at z <;> omega
      · omega
theorem tk_2 {i : Nat} (h : tkK b len kw i = 2) : isDg b len i = true := by
  unfold tkK at h
  have := sg_no (b i)
  have k1 := kw_le (kw := kw) (lN (nmN b i (lrN b len i - i))) 23
  split at h
  · omega
  · split at h
    · split at h <;> omega
    · split at h
      · next q => exact q
      · omega
theorem tk_1 {i : Nat} (h : tkK b len kw i = 1) : isLt b len i = true := by
  unfold tkK at h
  have := sg_no (b i)
  split at h
  · omega
  · split at h
    · next q => exact q
    · split at h
      · split at h <;> omega
      · omega
theorem ps_le (hl : len ≤ 2000) : ∀ k, (∀ j, j < k → tK b len kw j ≠ 0) → psN b len k ≤ len
  | 0, _ => Nat.zero_le _
  | k + 1, h => by
    have ih := ps_le hl k (fun j hj => h j (by omega))
    have hk := h k (by omega)
    have h2 : bkN b len (psN b len k) < len := by
      rcases Nat.lt_or_ge (bkN b len (psN b len k)) len with q | q
      · exact q
      · exact absurd (tk_0.mpr q) hk
    exact (tkE_ok hl h2).2
theorem c_cutUp (B : BC b len M) (hk : ∀ k, k < 23 → M.2.1 28 k = kw k) (hd : ∀ i j, i < j → j < 23 → kw i ≠ kw j) : ∃ M' E, f_X8_cutUp M = some M' ∧ FrT M M' ∧ E ≤ 400 ∧ (∀ j, j < E → tK b len kw j ≠ 0 ∧ tK b len kw j ≠ 3) ∧ (E = 400 ∨ tK b len kw E = 0 ∨ tK b len kw E = 3) ∧ TKC b len kw (E + 1) M' := by
  have hl := B.1
  obtain ⟨A, eA, E, q1, q2, q3, q4, q5⟩ := loopQ (fun fu k (s : Mem) => f_X8_cutUp_L4 (fun t12 => some t12) fu (nI (psN b len k)) (nI k) s) (fun k s => FrT M s ∧ (∀ j, j < k → tK b len kw j ≠ 0 ∧ tK b len kw j ≠ 3) ∧ TKC b len kw k s) (fun s => ∃ E, FrT M s ∧ E ≤ 400 ∧ (∀ j, j < E → tK b len kw j ≠ 0 ∧ tK b len kw j ≠ 3) ∧ (E = 400 ∨ tK b len kw E = 0 ∨ tK b len kw E = 3) ∧ TKC b len kw (E + 1) s) 401 (by omega) (fun fu s hP => by
      refine ⟨s, ?_, 400, hP.1, Nat.le_refl _, fun j hj => hP.2.1 j (by omega), Or.inl rfl, hP.2.2⟩
      show f_X8_cutUp_L4 _ (fu + 1) _ _ _ = _
      rw [f_X8_cutUp_L4, li 401, if_pos (nI_le (Nat.le_refl _) (by omega))]) (fun fu k s hk4 hP => by
      obtain ⟨p1, p2, p3⟩ := hP
      have B' := B.fr p1
      have hps := ps_le (kw := kw) hl k (fun j hj => (p2 j hj).1)
      obtain ⟨k1, k2, k3⟩ := bk_ok (b := b) hl hps
      have f1 : FrT M (sI s 26 k (nI (stN b len k))) := p1.tr ⟨fun a _ h => sI_cell h, fun _ _ => rfl, rfl⟩
      obtain ⟨M1, e1, r1, r2, r3, r4, r5⟩ := c_one (kw := kw) (B.fr f1) (fun q hq => by rw [f1.2.1 28 (by decide)]; exact hk q hq) hd (i := stN b len k) (k := k) k2 (by omega)
      have F1 : FrT M M1 := f1.tr ⟨fun a h _ => by rw [r1]; exact sI_cell h, fun a h => by funext j; exact r2 a j (Or.inl h), r3⟩
      have ek : M1.1 25 k = nI (cmN (tK b len kw k)) := by rw [r1]; exact sI_same
      have T1 : TKC b len kw (k + 1) M1 := fun j hj => by
        by_cases e : j = k
        · subst e
          refine ⟨ek, ?_, fun h => r5 (tk_2 h), fun h => r4 (tk_1 h)⟩
          rw [r1, sI_cell (by decide)]; exact sI_same
        · obtain ⟨a1, a2, a3, a4⟩ := p3 j (by omega)
          refine ⟨?_, ?_, fun h => (r2 27 j (Or.inr e)).trans (a3 h), fun h => (r2 27 j (Or.inr e)).trans (a4 h)⟩
          · rw [r1, sI_ix e, sI_cell (by decide)]; exact a1
          · rw [r1, sI_cell (by decide), sI_ix e]; exact a2
      obtain ⟨cm0, cm1, cml⟩ := cm_f (tK b len kw k) (tk_lt _)
      show (∃ a, f_X8_cutUp_L4 _ (fu + 1) _ _ _ = some a ∧ _) ∨ ∃ s', f_X8_cutUp_L4 _ (fu + 1) _ _ _ = f_X8_cutUp_L4 _ fu _ _ _ ∧ _
      rw [f_X8_cutUp_L4, li 401, if_neg (nI_ge hk4 (by omega)), c_behind B' hps, sb]
      show (∃ a, ((pg s 26 401 (nI k) (nI (stN b len k))).bind _) = some a ∧ _) ∨ ∃ s', ((pg s 26 401 (nI k) (nI (stN b len k))).bind _) = _ ∧ _
      rw [pg_n (by omega) (by omega), sb]
      show (∃ a, ((f_X8_cutOne (nI (stN b len k)) (nI k) (sI s 26 k (nI (stN b len k)))).bind _) = some a ∧ _) ∨ ∃ s', ((f_X8_cutOne (nI (stN b len k)) (nI k) (sI s 26 k (nI (stN b len k)))).bind _) = _ ∧ _
      rw [e1, sb, ag_n (by omega) (by omega), sb, sb, ek]
      by_cases h0 : tK b len kw k = 0
      · left
        rw [h0, if_pos (show nI (cmN 0) = 0 from rfl)]
        exact ⟨M1, rfl, k, F1, by omega, p2, Or.inr (Or.inl h0), T1⟩
      · rw [if_neg (nI_ne0 (by omega) (by omega))]
        by_cases h3 : tK b len kw k = 3
        · left
          rw [h3, if_pos (show nI (cmN 3) = 1 from rfl)]
          exact ⟨M1, rfl, k, F1, by omega, p2, Or.inr (Or.inr h3), T1⟩
        · right
          have hst : stN b len k < len := by
            rcases Nat.lt_or_ge (stN b len k) len with q | q
            · exact q
            · exact absurd (tk_0.mpr q) h0
          rw [if_neg (show ¬ nI (cmN (tK b len kw k)) = 1 from fun z => h3 (cm1.mp (nI_inj (b := 1) (by omega) (by omega) z))), lt_def, nI_1, if_pos hst]
          refine ⟨M1, rfl, F1, fun j hj => ?_, T1⟩
          by_cases e : j = k
          · rw [e]; exact ⟨h0, h3⟩
          · exact p2 j (by omega)) M ⟨FrT.rf, fun j hj => absurd hj (by omega), fun j hj => absurd hj (by omega)⟩
  exact ⟨A, E, eA, q1, q2, q3, q4, q5⟩
end CUQ

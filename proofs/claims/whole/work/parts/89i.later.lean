-- 89i.later: pure: later faults, by the class and by the reference
section LAT
variable {M : Mem} {lf : Nat × Nat}
def LFc (lf : Nat × Nat) (M : Mem) : Prop := M.1 23 8 = nI lf.1 ∧ lf.1 < 10 ∧ (lf.1 ≠ 0 → M.1 23 9 = nI lf.2) ∧ (lf.1 = 0 → M.1 23 9 = -1)
def LFm (lf : Nat × Nat) (M : Mem) : Prop := M.1 67 15 = nI lf.1 ∧ lf.1 < 10 ∧ (lf.1 ≠ 0 → M.1 67 16 = nI lf.2)
theorem c_later {f p : Nat} (hf : 0 < f) (hf2 : f < 10) (L : LFc lf M) : ∃ M', f_X6_failLater (nI f) (nI p) M = some M' ∧ LFc (lfU lf true f p) M' ∧ (∀ a, a ≠ 23 → M'.1 a = M.1 a) ∧ (∀ i, i ≠ 8 → i ≠ 9 → M'.1 23 i = M.1 23 i) ∧ M'.2 = M.2 := by
  unfold f_X6_failLater lfU
  rw [L.1]
  by_cases h : lf.1 = 0
  · rw [if_pos (by rw [h]; rfl), if_pos ⟨h, rfl⟩, lt_def, lt_def]
    exact ⟨_, rfl, ⟨(sI_ix (by decide)).trans sI_same, hf2, fun _ => sI_same, (fun z => absurd z (show ¬ f = 0 by omega))⟩, fun a q => (sI_cell q).trans (sI_cell q), fun i q r => (sI_ix r).trans (sI_ix q), rfl⟩
  · have := L.2.1
    rw [if_neg (nI_ne0 (by omega) (by omega)), if_neg (fun z => h z.1)]
    exact ⟨M, rfl, L, fun _ _ => rfl, fun _ _ _ => rfl, rfl⟩
/-- alive, and no later fault stands behind token i -/
theorem r_wrong {f i : Nat} {P : Nat → Nat} (hf : 0 < f) (hf2 : f < 10) (hi : i < 403) (hp : M.1 71 i = nI (P i)) (hP : P i ≤ 2000) (h13 : M.1 67 13 = 0) (L : LFm lf M) (hl : lf.1 ≠ 0 → lf.2 < P i ∨ (lf.2 = P i ∧ lf.1 ≤ f)) : ∃ M', f_X12_wrong (nI f) (nI i) M = some M' ∧ LFm (lfU lf true f (P i)) M' ∧ (∀ a, a ≠ 67 → M'.1 a = M.1 a) ∧ (∀ j, j ≠ 15 → j ≠ 16 → M'.1 67 j = M.1 67 j) ∧ M'.2 = M.2 := by
  unfold f_X12_wrong lfU
  rw [ag_n hi (by omega), sb, hp, h13, if_neg (by decide), lt_def, L.1]
  by_cases h : lf.1 = 0
  · rw [if_pos (by rw [h]; rfl), if_pos ⟨h, rfl⟩, lt_def, lt_def]
    exact ⟨_, rfl, ⟨(sI_ix (by decide)).trans sI_same, hf2, fun _ => sI_same⟩, fun a q => (sI_cell q).trans (sI_cell q), fun i q r => (sI_ix r).trans (sI_ix q), rfl⟩
  · have l2 := L.2.1
    have keep : ∃ M', some M = some M' ∧ LFm lf M' ∧ (∀ a, a ≠ 67 → M'.1 a = M.1 a) ∧ (∀ j, j ≠ 15 → j ≠ 16 → M'.1 67 j = M.1 67 j) ∧ M'.2 = M.2 := ⟨M, rfl, L, fun _ _ => rfl, fun _ _ _ => rfl, rfl⟩
    rw [if_neg (show ¬ (lf.1 = 0 ∧ true = true) from fun z => h z.1), if_neg (nI_ne0 (by omega) (by omega)), L.2.2 h]
    rcases hl h with q | ⟨q, q2⟩
    · rw [if_pos (nI_lt q (by omega))]
      exact keep
    · rw [q, if_neg (nI_nlt (Nat.le_refl _) (by omega)), if_pos rfl, if_neg (nI_nlt q2 (by omega))]
      exact keep
end LAT

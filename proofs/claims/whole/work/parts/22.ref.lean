-- 22.ref: pure: what the reference's functions tell of the pictures
/-- a call of the reference that asks: which cells it may have used as scratch -/
def FrM (S : List Nat) (M M' : Mem) : Prop := (∀ a, a ∉ S → a ≠ 67 → M'.1 a = M.1 a) ∧ (∀ k, k ≠ 52 → k ≠ 55 → k ≠ 56 → M'.1 67 k = M.1 67 k) ∧ M'.2 = M.2
theorem FrM.rf {S : List Nat} {M : Mem} : FrM S M M := ⟨fun _ _ _ => rfl, fun _ _ _ _ => rfl, rfl⟩
theorem FrM.tr {S S2 : List Nat} {M M1 M2 : Mem} (h1 : FrM S M M1) (h2 : FrM S2 M1 M2) : FrM (S ++ S2) M M2 :=
  ⟨fun a ha h => (h2.1 a (fun z => ha (List.mem_append_right _ z)) h).trans (h1.1 a (fun z => ha (List.mem_append_left _ z)) h), fun k a b c => (h2.2.1 k a b c).trans (h1.2.1 k a b c), h2.2.2.trans h1.2.2⟩
theorem FrM.sub {S S2 : List Nat} {M M1 : Mem} (h1 : FrM S M M1) (h : ∀ a ∈ S, a ∈ S2) : FrM S2 M M1 := ⟨fun a ha h67 => h1.1 a (fun z => ha (h a z)) h67, h1.2⟩
theorem FrM.set {S : List Nat} {M : Mem} {a i : Nat} {x : Int32} (ha : a ∈ S) (h67 : a ≠ 67) : FrM S M (sI M a i x) := ⟨fun b hb _ => sI_cell (fun z => hb (z ▸ ha)), fun k _ _ _ => by rw [sI_cell (Ne.symm h67)], rfl⟩
theorem FrM.cpy {S : List Nat} {M : Mem} {a b sp dp n : Nat} (ha : b ∈ S) (h67 : b ≠ 67) : FrM S M (cpM M a b sp dp n) := ⟨fun c hc _ => cp_cell (fun z => hc (z ▸ ha)), fun k _ _ _ => by rw [cp_cell (Ne.symm h67)], rfl⟩
theorem TR.fr {S : List Nat} {v : Nat} {τ : Nat → Nat → Nat} {M M' : Mem} (h : TR v τ M) (f : FrM S M M') (hS : ∀ a ∈ [77, 78, 79, 80, 81, 82, 83, 84, 86, 89, 90], a ∉ S) : TR v τ M' := by
  have c : ∀ a ∈ [77, 78, 79, 80, 81, 82, 83, 84, 86, 89, 90], M'.1 a = M.1 a := fun a ha => f.1 a (hS a ha) (by intro e; subst e; revert ha; decide)
  unfold TR at h ⊢
  rw [f.2.1 18 (by decide) (by decide) (by decide), c 77 (by decide), c 78 (by decide), c 79 (by decide), c 80 (by decide), c 81 (by decide), c 82 (by decide), c 83 (by decide), c 84 (by decide), c 86 (by decide), c 89 (by decide), c 90 (by decide)]
  exact h
theorem NR.fr {S : List Nat} {r : Nat} {τ : Nat → Nat → Nat} {ρ : Nat → Nat} {M M' : Mem} (h : NR r τ ρ M) (f : FrM S M M') (hS : r ∉ S) (h67 : r ≠ 67) : NR r τ ρ M' := by
  unfold NR at h ⊢
  rw [f.1 r hS h67]
  exact h
theorem cpM_0 {M : Mem} {a b sp dp : Nat} : cpM M a b sp dp 0 = M := by
  apply Prod.ext
  · funext c j
    rw [cp1, if_neg (by omega)]
  · rfl
theorem cpM_s {M : Mem} {a b sp dp y : Nat} : sI (cpM M a b sp dp y) b (dp + y) (M.1 a (sp + y)) = cpM M a b sp dp (y + 1) := by
  apply Prod.ext
  · funext c j
    rw [sI1, cp1, cp1]
    by_cases h : c = b ∧ j = dp + y
    · rw [if_pos h, if_pos ⟨h.1, by omega, by omega⟩, h.2, show sp + (dp + y - dp) = sp + y by omega]
    · rw [if_neg h]
      by_cases h2 : c = b ∧ dp ≤ j ∧ j < dp + y
      · rw [if_pos h2, if_pos ⟨h2.1, h2.2.1, by omega⟩]
      · rw [if_neg h2, if_neg]
        intro h3
        by_cases h4 : j = dp + y
        · exact h ⟨h3.1, h4⟩
        · exact h2 ⟨h3.1, h3.2.1, by omega⟩
  · rfl
section REFR
variable {v : Nat} {τ : Nat → Nat → Nat} {ρ : Nat → Nat} {M : Mem}
theorem r_light (hw : wfT τ) (hT : TR v τ M) (hN : NR 104 τ ρ M) (wn : wfN τ ρ) {c : Nat} (hc : c < 100) : f_X12_lightAt (nI c) M = some (nI (lgt τ ρ c)) := by
  have hY : tY τ ≤ 6 := hw.2.2.1
  have hC : tC τ ≤ 7 := hw.1
  have hv : v ≤ 1 := hT.1
  have key : f_X12_lightAt_L4 FU (nI c) 0 0 M = some (nI (lgt τ ρ c)) := by
    refine loop0 (fun fu y => f_X12_lightAt_L4 fu (nI c) (nI (sumN (fun y => if ρ y = c then ρ (6 + y) else 0) y)) (nI y) M) _ (tY τ) (by omega) (fun fu => ?_) (fun fu y hy => ?_)
    · show f_X12_lightAt_L4 (fu + 1) _ _ _ M = _
      rw [f_X12_lightAt_L4, hT.2.1, ag_n (by omega) (by omega), sb, hT.2.2.2.2.1, if_pos (nI_le (Nat.le_refl _) (by omega))]
      rfl
    · show f_X12_lightAt_L4 (fu + 1) _ _ _ M = f_X12_lightAt_L4 fu _ _ _ M
      have ha := wn.1 y hy
      rw [f_X12_lightAt_L4, hT.2.1, ag_n (by omega) (by omega), sb, hT.2.2.2.2.1, if_neg (nI_ge hy (by omega)), ag_n (by omega) (by omega), sb, hN.1 y (by omega) (by omega), sumN_s]
      by_cases h : ρ y = c
      · rw [if_pos (by rw [h]), if_pos h, li 6, nI_add, ag_n (by omega) (by omega), sb, hN.1 (6 + y) (by omega) (by omega), lt_def, lt_def, nI_add, nI_1]
      · rw [if_neg (fun z => h (nI_inj (by omega) (by omega) z)), if_neg h, lt_def, nI_1]; rfl
  unfold f_X12_lightAt
  rw [key]
  rfl
theorem r_who (hw : wfT τ) (hT : TR v τ M) (hN : NR 104 τ ρ M) (wn : wfN τ ρ) {c : Nat} (hc : c < 100) : f_X12_outAt (nI c) M = some (nI (whoN τ ρ c)) := by
  have hY : tY τ ≤ 6 := hw.2.2.1
  have hC : tC τ ≤ 7 := hw.1
  have hv : v ≤ 1 := hT.1
  have key : f_X12_outAt_L4 FU (nI c) 0 0 M = some (nI (whoN τ ρ c)) := by
    refine loop0 (fun fu y => f_X12_outAt_L4 fu (nI c) (nI (mskN (whoB ρ c) y)) (nI y) M) _ (tY τ) (by omega) (fun fu => ?_) (fun fu y hy => ?_)
    · show f_X12_outAt_L4 (fu + 1) _ _ _ M = _
      rw [f_X12_outAt_L4, hT.2.1, ag_n (by omega) (by omega), sb, hT.2.2.2.2.1, if_pos (nI_le (Nat.le_refl _) (by omega))]
      rfl
    · show f_X12_outAt_L4 (fu + 1) _ _ _ M = f_X12_outAt_L4 fu _ _ _ M
      have ha := wn.1 y hy
      have hb := (wn.2.1 y (by omega)).2.1
      rw [f_X12_outAt_L4, hT.2.1, ag_n (by omega) (by omega), sb, hT.2.2.2.2.1, if_neg (nI_ge hy (by omega)), li 12, nI_add, ag_n (by omega) (by omega), sb, hN.1 (12 + y) (by omega) (by omega), mskN_s]
      by_cases h : ρ (12 + y) = 0
      · rw [h, if_pos nI_0, ag_n (by omega) (by omega), sb, hN.1 y (by omega) (by omega)]
        by_cases h2 : ρ y = c
        · have e2 : whoB ρ c y = true := by simp [whoB, h, h2]
          rw [if_pos (by rw [h2]), e2, lt_def, lt_def, nI_1, msk_or (by omega)]; rfl
        · have e2 : whoB ρ c y = false := by simp [whoB, h2]
          rw [if_neg (fun z => h2 (nI_inj (by omega) (by omega) z)), e2, lt_def, nI_1]; rfl
      · have e2 : whoB ρ c y = false := by simp [whoB, h]
        rw [if_neg (nI_ne0 (by omega) (by omega)), e2, lt_def, nI_1]; rfl
  unfold f_X12_outAt
  rw [key]
  rfl
theorem r_need (hw : wfT τ) (hT : TR v τ M) (hN : NR 104 τ ρ M) (wn : wfN τ ρ) {s : Nat} (hs : s < tS τ) : f_X12_needsOf (nI s) M = some (nI (need τ ρ s)) := by
  have hS : tS τ ≤ 10 := hw.2.1
  have hC : tC τ ≤ 7 := hw.1
  have hv : v ≤ 1 := hT.1
  obtain ⟨h1, h2, h3⟩ := hT.2.2.2.2.2.2.2.2.1 s hs
  obtain ⟨q1, q2, -, q3, q4⟩ := hw.2.2.2.2.2.2 s hs
  have l1 := lgt_le hw wn (τ 1 s)
  have l2 := lgt_le hw wn (τ 2 s)
  unfold f_X12_needsOf
  rw [hT.2.1, li 10, pk_mul, nI_add, lt_def, ag_n (by omega) (by omega), sb, ag_n (by omega) (by omega), sb, h1, r_light hw hT hN wn (by omega), sb, ag_n (by omega) (by omega), sb, h2, r_light hw hT hN wn (by omega), sb, h3, lt_def]
  have e := need_e (a := τ 3 s) (b := lgt τ ρ (τ 1 s)) (c := lgt τ ρ (τ 2 s)) (by omega) (by omega) (by omega)
  rw [← need] at e
  by_cases h : (0 : Int32) ≤ (nI (τ 3 s) - nI (lgt τ ρ (τ 1 s))) - nI (lgt τ ρ (τ 2 s))
  · rw [if_pos h, ← e]
    by_cases h2 : (0 : Int32) < (nI (τ 3 s) - nI (lgt τ ρ (τ 1 s))) - nI (lgt τ ρ (τ 2 s))
    · rw [if_pos h2]
    · rw [if_neg h2]
      exact congrArg some (Int32.le_antisymm (Int32.not_lt.mp h2) h)
  · rw [if_neg h, ← e, if_neg (fun z => h (Int32.le_of_lt z))]
theorem r_copy (hN : NR 103 τ ρ M) (hT : TR v τ M) : ∃ M', f_X12_copies M = some M' ∧ FrM [104] M M' ∧ NR 104 τ ρ M' ∧ M'.1 67 55 = nI (tE τ) ∧ M'.1 67 56 = 0 := by
  have hv : v ≤ 1 := hT.1
  have key : f_X12_copies_L2 FU 0 M = some (cpM M 103 104 0 0 48) := by
    have h := loop0 (fun fu y => f_X12_copies_L2 fu (nI y) (cpM M 103 104 0 0 y)) (some (cpM M 103 104 0 0 48)) 48 (by omega) (fun fu => ?_) (fun fu y hy => ?_)
    · rw [cpM_0] at h
      exact h
    · show f_X12_copies_L2 (fu + 1) _ _ = _
      rw [f_X12_copies_L2, li 48, if_pos (nI_le (Nat.le_refl _) (by omega))]
    · show f_X12_copies_L2 (fu + 1) _ _ = f_X12_copies_L2 fu _ _
      rw [f_X12_copies_L2, li 48, if_neg (nI_ge hy (by omega)), ag_n (by omega) (by omega), sb, pg_n (by omega) (by omega), sb, lt_def, nI_1, cp1, if_neg (by omega)]
      have := cpM_s (M := M) (a := 103) (b := 104) (sp := 0) (dp := 0) (y := y)
      rw [Nat.zero_add] at this
      rw [this]
  refine ⟨sI (sI (cpM M 103 104 0 0 48) 67 55 (nI (tE τ))) 67 56 0, ?_, ?_, ?_, ?_, ?_⟩
  · unfold f_X12_copies
    have e18 : (cpM M 103 104 0 0 48).1 67 18 = nI v := by rw [cp_cell (by decide)]; exact hT.2.1
    have e90 : (cpM M 103 104 0 0 48).1 90 v = nI (tE τ) := by rw [cp_cell (by decide)]; exact hT.2.2.2.2.2.2.2.1
    rw [key, sb, e18, ag_n (by omega) (by omega), sb, e90, lt_def, lt_def]
  · refine ⟨fun a ha h67 => ?_, fun k h1 h2 h3 => ?_, rfl⟩
    · rw [sI_cell h67, sI_cell h67, cp_cell (by simpa using ha)]
    · rw [sI_ix h3, sI_ix h2, cp_cell (by decide)]
  · refine ⟨fun k hk h46 => ?_, fun h => ?_, fun h => ?_⟩
    · rw [sI_cell (by decide), sI_cell (by decide), cp1, if_pos ⟨rfl, Nat.zero_le _, by omega⟩, Nat.zero_add, Nat.sub_zero]
      exact hN.1 k hk h46
    · rw [sI_cell (by decide), sI_cell (by decide), cp1, if_pos ⟨rfl, by omega, by omega⟩]
      exact hN.2.1 h
    · rw [sI_cell (by decide), sI_cell (by decide), cp1, if_pos ⟨rfl, by omega, by omega⟩]
      exact hN.2.2 h
  · rw [sI_ix (by decide), sI_same]
  · rw [sI_same]
end REFR

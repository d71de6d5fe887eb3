-- 21.pic: the pictures of a town (tau) and of a night (rho), as the class's cells and as the reference's cells hold them
abbrev tC (τ : Nat → Nat → Nat) : Nat := τ 0 0
abbrev tS (τ : Nat → Nat → Nat) : Nat := τ 0 1
abbrev tY (τ : Nat → Nat → Nat) : Nat := τ 0 2
abbrev tW (τ : Nat → Nat → Nat) : Nat := τ 0 3
abbrev tD (τ : Nat → Nat → Nat) : Nat := τ 0 4
abbrev tE (τ : Nat → Nat → Nat) : Nat := τ 0 5
def wfT (τ : Nat → Nat → Nat) : Prop := tC τ ≤ 7 ∧ tS τ ≤ 10 ∧ tY τ ≤ 6 ∧ tW τ ≤ 5 ∧ tD τ ≤ 100 ∧ tE τ ≤ 9999 ∧ ∀ s, s < tS τ → τ 1 s < tC τ ∧ τ 2 s < tC τ ∧ τ 1 s ≠ τ 2 s ∧ 1 ≤ τ 3 s ∧ τ 3 s ≤ 99
/-- the class's town t -/
def TC (t : Nat) (τ : Nat → Nat → Nat) (M : Mem) : Prop := isT t ∧ M.1 t 10 = nI (tC τ) ∧ M.1 t 11 = nI (tS τ) ∧ M.1 t 12 = nI (tY τ) ∧ M.1 t 13 = nI (tW τ) ∧ M.1 t 15 = nI (tD τ) ∧ M.1 t 16 = nI (tE τ) ∧ (∀ s, s < tS τ → M.1 (t + 1) s = nI (τ 1 s) ∧ M.1 (t + 2) s = nI (τ 2 s) ∧ M.1 (t + 3) s = nI (τ 3 s)) ∧ ∀ y, y < tY τ → M.1 (t + 4) y = nI (τ 4 y) ∧ M.1 (t + 5) y = nI (τ 5 y)
/-- the reference's side v -/
def TR (v : Nat) (τ : Nat → Nat → Nat) (M : Mem) : Prop := v ≤ 1 ∧ M.1 67 18 = nI v ∧ M.1 77 v = nI (tC τ) ∧ M.1 78 v = nI (tS τ) ∧ M.1 82 v = nI (tY τ) ∧ M.1 86 v = nI (tW τ) ∧ M.1 89 v = nI (tD τ) ∧ M.1 90 v = nI (tE τ) ∧ (∀ s, s < tS τ → M.1 79 (10 * v + s) = nI (τ 1 s) ∧ M.1 80 (10 * v + s) = nI (τ 2 s) ∧ M.1 81 (10 * v + s) = nI (τ 3 s)) ∧ ∀ y, y < tY τ → M.1 83 (6 * v + y) = nI (τ 4 y) ∧ M.1 84 (6 * v + y) = nI (τ 5 y)
def wfN (τ : Nat → Nat → Nat) (ρ : Nat → Nat) : Prop := (∀ y, y < tY τ → ρ y < tC τ) ∧ (∀ y, y < 6 → ρ (6 + y) ≤ 999 ∧ ρ (12 + y) ≤ 1 ∧ ρ (30 + y) ≤ 1 ∧ (ρ (12 + y) = 1 → ρ (6 + y) = 0) ∧ (tY τ ≤ y → ρ (6 + y) = 0 ∧ ρ (12 + y) = 0 ∧ ρ (30 + y) = 0)) ∧ (∀ w, w < 5 → ρ (36 + w) ≤ 99) ∧ (0 < tC τ → ρ 46 < tC τ)
def hmB (ρ : Nat → Nat) (y : Nat) : Bool := ρ (12 + y) == 1
def rgB (ρ : Nat → Nat) (y : Nat) : Bool := ρ (30 + y) == 1
/-- the class's night n, over its town t -/
def NC (n t : Nat) (τ : Nat → Nat → Nat) (ρ : Nat → Nat) (M : Mem) : Prop := isN n ∧ M.2.2 n 0 = some t ∧ M.1 n 1 = nI (ρ 47) ∧ (0 < tC τ → M.1 n 2 = nI (ρ 46)) ∧ M.1 n 3 = nI (mskN (hmB ρ) 6) ∧ M.1 n 4 = nI (mskN (rgB ρ) 6) ∧ (∀ y, y < tY τ → M.1 (n + 1) y = nI (ρ y)) ∧ (∀ y, y < 6 → M.1 (n + 2) y = nI (ρ (6 + y)) ∧ M.1 (n + 3) y = nI (ρ (18 + y)) ∧ M.1 (n + 4) y = nI (ρ (24 + y))) ∧ ∀ w, w < 5 → M.1 (n + 5) w = nI (ρ (36 + w)) ∧ M.1 (n + 6) w = nI (ρ (41 + w))
/-- the reference's row r -/
def NR (r : Nat) (τ : Nat → Nat → Nat) (ρ : Nat → Nat) (M : Mem) : Prop := (∀ k, k < 48 → k ≠ 46 → M.1 r k = nI (ρ k)) ∧ (0 < tC τ → M.1 r 46 = nI (ρ 46)) ∧ (tC τ = 0 → M.1 r 46 = -2)
-- what the pictures tell
def lgt (τ : Nat → Nat → Nat) (ρ : Nat → Nat) (c : Nat) : Nat := sumN (fun y => if ρ y = c then ρ (6 + y) else 0) (tY τ)
def whoB (ρ : Nat → Nat) (c : Nat) (y : Nat) : Bool := ρ y == c && ρ (12 + y) == 0
def whoN (τ : Nat → Nat → Nat) (ρ : Nat → Nat) (c : Nat) : Nat := mskN (whoB ρ c) (tY τ)
def need (τ : Nat → Nat → Nat) (ρ : Nat → Nat) (s : Nat) : Nat := τ 3 s - lgt τ ρ (τ 1 s) - lgt τ ρ (τ 2 s)
def litB (τ : Nat → Nat → Nat) (ρ : Nat → Nat) (s : Nat) : Bool := need τ ρ s == 0
def litN (τ : Nat → Nat → Nat) (ρ : Nat → Nat) : Nat := mskN (litB τ ρ) (tS τ)
theorem lgt_le {τ : Nat → Nat → Nat} {ρ : Nat → Nat} (hw : wfT τ) (wn : wfN τ ρ) (c : Nat) : lgt τ ρ c ≤ 5994 := by
  have hY : tY τ ≤ 6 := hw.2.2.1
  have h : sumN (fun y => if ρ y = c then ρ (6 + y) else 0) (tY τ) ≤ tY τ * 999 := sumN_le (fun k hk => by
    have := (wn.2.1 k (by omega)).1
    split <;> omega)
  unfold lgt
  omega
theorem need_e {a b c : Nat} (ha : a ≤ 99) (hb : b ≤ 5994) (hc : c ≤ 5994) : (if (0 : Int32) < (nI a - nI b) - nI c then (nI a - nI b) - nI c else 0) = nI (a - b - c) := by
  have e1 : (nI a - nI b).toInt = (a : Int) - b := pk_sub_toInt (by omega) (by omega)
  have e2 : ((nI a - nI b) - nI c).toInt = (a : Int) - b - c := by
    rw [Int32.toInt_sub, e1, nI_toInt (by omega : c < 2 ^ 31)]
    apply Int.bmod_eq_of_le <;> omega
  by_cases h : (0 : Int32) < (nI a - nI b) - nI c
  · rw [if_pos h]
    have h1 := Int32.lt_iff_toInt_lt.mp h
    rw [e2] at h1
    have h2 : (0 : Int) < (a : Int) - b - c := h1
    apply Int32.toInt_inj.mp
    rw [e2, nI_toInt (by omega)]
    omega
  · rw [if_neg h]
    have h1 : ¬ (0 : Int32).toInt < ((nI a - nI b) - nI c).toInt := fun z => h (Int32.lt_iff_toInt_lt.mpr z)
    rw [e2] at h1
    have h2 : ¬ (0 : Int) < (a : Int) - b - c := h1
    rw [show a - b - c = 0 by omega]
    rfl
-- the class
section NIGHT
variable {t n : Nat} {τ : Nat → Nat → Nat} {ρ : Nat → Nat} {M : Mem}
theorem c_home (hN : NC n t τ ρ M) (wn : wfN τ ρ) {y : Nat} (hy : y < 6) : f_X3_isHome n (nI y) M = some (if hmB ρ y then 1 else 0) := by
  unfold f_X3_isHome
  rw [hN.2.2.2.2.1, bit_n (Nat.lt_of_lt_of_le (mskN_lt _ 6) (by decide)) (by omega), mskN_bit]
  simp only [hy, decide_true, Bool.true_and]
  cases hmB ρ y <;> rfl
theorem c_light (hw : wfT τ) (hT : TC t τ M) (hN : NC n t τ ρ M) (wn : wfN τ ρ) {c : Nat} (hc : c < 100) : f_X3_lightAt n (nI c) M = some (nI (lgt τ ρ c)) := by
  have hY : tY τ ≤ 6 := hw.2.2.1
  have key : f_X3_lightAt_L4 n FU (nI c) 0 0 M = some (nI (lgt τ ρ c)) := by
    refine loop0 (fun fu y => f_X3_lightAt_L4 n fu (nI c) (nI (sumN (fun y => if ρ y = c then ρ (6 + y) else 0) y)) (nI y) M) _ (tY τ) (by omega) (fun fu => ?_) (fun fu y hy => ?_)
    · show f_X3_lightAt_L4 n (fu + 1) _ _ _ M = _
      rw [f_X3_lightAt_L4, rT_n hN.2.1 hT.1, sb, hT.2.2.2.1, if_pos (nI_le (Nat.le_refl _) (by omega))]
      rfl
    · show f_X3_lightAt_L4 n (fu + 1) _ _ _ M = f_X3_lightAt_L4 n fu _ _ _ M
      have ha := wn.1 y hy
      have hC : tC τ ≤ 7 := hw.1
      rw [f_X3_lightAt_L4, rT_n hN.2.1 hT.1, sb, hT.2.2.2.1, if_neg (nI_ge hy (by omega)), ag_n (by omega) (by omega), sb, hN.2.2.2.2.2.2.1 y hy, sumN_s]
      by_cases h : ρ y = c
      · rw [if_pos (by rw [h]), if_pos h, ag_n (by omega) (by omega), sb, (hN.2.2.2.2.2.2.2.1 y (by omega)).1, lt_def, lt_def, nI_add, nI_1]
      · rw [if_neg (fun z => h (nI_inj (by omega) (by omega) z)), if_neg h, lt_def, nI_1]; rfl
  unfold f_X3_lightAt
  rw [show (0 : Int32) = 0 from rfl, key]
  rfl
theorem c_who (hw : wfT τ) (hT : TC t τ M) (hN : NC n t τ ρ M) (wn : wfN τ ρ) {c : Nat} (hc : c < 100) : f_X3_whoIsAt n (nI c) M = some (nI (whoN τ ρ c)) := by
  have hY : tY τ ≤ 6 := hw.2.2.1
  have hC : tC τ ≤ 7 := hw.1
  have key : f_X3_whoIsAt_L4 n FU (nI c) 0 0 M = some (nI (whoN τ ρ c)) := by
    refine loop0 (fun fu y => f_X3_whoIsAt_L4 n fu (nI c) (nI (mskN (whoB ρ c) y)) (nI y) M) _ (tY τ) (by omega) (fun fu => ?_) (fun fu y hy => ?_)
    · show f_X3_whoIsAt_L4 n (fu + 1) _ _ _ M = _
      rw [f_X3_whoIsAt_L4, rT_n hN.2.1 hT.1, sb, hT.2.2.2.1, if_pos (nI_le (Nat.le_refl _) (by omega))]
      rfl
    · show f_X3_whoIsAt_L4 n (fu + 1) _ _ _ M = f_X3_whoIsAt_L4 n fu _ _ _ M
      have ha := wn.1 y hy
      have hb := (wn.2.1 y (by omega)).2.1
      rw [f_X3_whoIsAt_L4, rT_n hN.2.1 hT.1, sb, hT.2.2.2.1, if_neg (nI_ge hy (by omega)), ag_n (by omega) (by omega), sb, hN.2.2.2.2.2.2.1 y hy, mskN_s]
      by_cases h : ρ y = c
      · rw [if_pos (by rw [h]), c_home hN wn (by omega), sb]
        by_cases h2 : ρ (12 + y) = 1
        · have e1 : hmB ρ y = true := by simp [hmB, h2]
          have e2 : whoB ρ c y = false := by simp [whoB, h2]
          rw [e1, e2, if_neg (by decide), lt_def, nI_1]; rfl
        · have e1 : hmB ρ y = false := by simp [hmB, h2]
          have e2 : whoB ρ c y = true := by simp [whoB, h]; omega
          rw [e1, e2, if_pos (by decide), lt_def, lt_def, nI_1, msk_or (by omega)]; rfl
      · have e2 : whoB ρ c y = false := by simp [whoB, h]
        rw [if_neg (fun z => h (nI_inj (by omega) (by omega) z)), e2, lt_def, nI_1]; rfl
  unfold f_X3_whoIsAt
  rw [key]
  rfl
theorem c_need (hw : wfT τ) (hT : TC t τ M) (hN : NC n t τ ρ M) (wn : wfN τ ρ) {s : Nat} (hs : s < tS τ) : f_X3_needsOf n (nI s) M = some (nI (need τ ρ s)) := by
  have hS : tS τ ≤ 10 := hw.2.1
  have hC : tC τ ≤ 7 := hw.1
  obtain ⟨h1, h2, h3⟩ := hT.2.2.2.2.2.2.2.1 s hs
  obtain ⟨q1, q2, -, q3, q4⟩ := hw.2.2.2.2.2.2 s hs
  have l1 := lgt_le hw wn (τ 1 s)
  have l2 := lgt_le hw wn (τ 2 s)
  unfold f_X3_needsOf
  rw [rT_n hN.2.1 hT.1, sb, ag_n (by omega) (by omega), sb, sb, ag_n (by omega) (by omega), sb, h1, c_light hw hT hN wn (by omega), sb, sb, ag_n (by omega) (by omega), sb, h2, c_light hw hT hN wn (by omega), sb, h3, lt_def]
  exact congrArg some (need_e (by omega) (by omega) (by omega))
theorem c_lit (hw : wfT τ) (hT : TC t τ M) (hN : NC n t τ ρ M) (wn : wfN τ ρ) {s : Nat} (hs : s < tS τ) : f_X3_isLit n (nI s) M = some (if litB τ ρ s then 1 else 0) := by
  have h99 : need τ ρ s ≤ 99 := by
    have := (hw.2.2.2.2.2.2 s hs).2.2.2.2
    unfold need
    omega
  unfold f_X3_isLit
  rw [c_need hw hT hN wn hs, sb]
  by_cases h : need τ ρ s = 0
  · rw [h, if_pos nI_0, show litB τ ρ s = true by simp [litB, h]]; rfl
  · rw [if_neg (nI_ne0 (by omega) (by omega)), show litB τ ρ s = false by simp [litB, h]]; rfl
theorem c_lits (hw : wfT τ) (hT : TC t τ M) (hN : NC n t τ ρ M) (wn : wfN τ ρ) : f_X3_litStreets n M = some (nI (litN τ ρ)) := by
  have hS : tS τ ≤ 10 := hw.2.1
  have key : f_X3_litStreets_L4 n FU 0 0 M = some (nI (litN τ ρ)) := by
    refine loop0 (fun fu y => f_X3_litStreets_L4 n fu (nI (mskN (litB τ ρ) y)) (nI y) M) _ (tS τ) (by omega) (fun fu => ?_) (fun fu y hy => ?_)
    · show f_X3_litStreets_L4 n (fu + 1) _ _ M = _
      rw [f_X3_litStreets_L4, rT_n hN.2.1 hT.1, sb, hT.2.2.1, if_pos (nI_le (Nat.le_refl _) (by omega))]
      rfl
    · show f_X3_litStreets_L4 n (fu + 1) _ _ M = f_X3_litStreets_L4 n fu _ _ M
      rw [f_X3_litStreets_L4, rT_n hN.2.1 hT.1, sb, hT.2.2.1, if_neg (nI_ge hy (by omega)), c_lit hw hT hN wn hy, sb, mskN_s]
      cases hl : litB τ ρ y
      · rw [if_pos (by decide), lt_def, nI_1]; rfl
      · rw [if_neg (by decide), lt_def, lt_def, nI_1, msk_or (by omega)]; rfl
  unfold f_X3_litStreets
  rw [key]
  rfl
theorem c_needs (hw : wfT τ) (hT : TC t τ M) (hN : NC n t τ ρ M) (wn : wfN τ ρ) : f_X3_needsOfAll n M = some (nI (sumN (need τ ρ) (tS τ))) := by
  have hS : tS τ ≤ 10 := hw.2.1
  have key : f_X3_needsOfAll_L4 n FU 0 0 M = some (nI (sumN (need τ ρ) (tS τ))) := by
    refine loop0 (fun fu y => f_X3_needsOfAll_L4 n fu (nI (sumN (need τ ρ) y)) (nI y) M) _ (tS τ) (by omega) (fun fu => ?_) (fun fu y hy => ?_)
    · show f_X3_needsOfAll_L4 n (fu + 1) _ _ M = _
      rw [f_X3_needsOfAll_L4, rT_n hN.2.1 hT.1, sb, hT.2.2.1, if_pos (nI_le (Nat.le_refl _) (by omega))]
    · show f_X3_needsOfAll_L4 n (fu + 1) _ _ M = f_X3_needsOfAll_L4 n fu _ _ M
      rw [f_X3_needsOfAll_L4, rT_n hN.2.1 hT.1, sb, hT.2.2.1, if_neg (nI_ge hy (by omega)), c_need hw hT hN wn hy, sb, lt_def, lt_def, nI_1, nI_add, sumN_s]
  unfold f_X3_needsOfAll
  rw [key]
  rfl
end NIGHT

-- 64.cbest: pure: the class's search for the first best places
abbrev poS : List Nat := [48, 49, 50, 51, 52]
def SF (M M' : Mem) : Prop := FrD poS M M' ∧ M'.1 48 6 = M.1 48 6 ∧ M'.1 48 2 = M.1 48 2
theorem SF.tr {M M1 M2 : Mem} (h : SF M M1) (h' : SF M1 M2) : SF M M2 := ⟨h.1.tr h'.1, h'.2.1.trans h.2.1, h'.2.2.trans h.2.2⟩
theorem SF.rf {M : Mem} : SF M M := ⟨FrD.rf, rfl, rfl⟩
theorem SF.set {M : Mem} {a i : Nat} {x : Int32} (ha : a ∈ poS) (h : a ≠ 48 ∨ (i ≠ 6 ∧ i ≠ 2)) : SF M (sI M a i x) := by
  refine ⟨FrD.set ha, ?_, ?_⟩
  · by_cases e : a = 48
    · subst e; exact sI_ix (Ne.symm (h.resolve_left (fun z => z rfl)).1)
    · exact congrFun (sI_cell (Ne.symm e)) 6
  · by_cases e : a = 48
    · subst e; exact sI_ix (Ne.symm (h.resolve_left (fun z => z rfl)).2)
    · exact congrFun (sI_cell (Ne.symm e)) 2
def ltW (ρ w : Nat → Nat) (y c : Nat) : Nat := sumN (fun j => if w j = c then ρ (6 + j) else 0) y
def gsN6 (ρ : Nat → Nat) (y : Nat) : Nat := sumN (fun j => ρ (6 + j)) y
section CBS
variable {τ : Nat → Nat → Nat} {ρ tt : Nat → Nat} {t b la : Nat} {M M' : Mem}
theorem ltW_le (w : Nat → Nat) (c : Nat) : ∀ y, ltW ρ w y c ≤ gsN6 ρ y
  | 0 => Nat.le_refl _
  | y + 1 => by
    have ih := ltW_le w c y
    show ltW ρ w y c + (if w y = c then ρ (6 + y) else 0) ≤ gsN6 ρ y + ρ (6 + y)
    split <;> omega
theorem g6_le (wn : wfN τ ρ) : ∀ y, y ≤ 6 → gsN6 ρ y ≤ y * 999
  | 0, _ => Nat.le_refl _
  | y + 1, hy => by
    have ih := g6_le wn y (by omega)
    have := (wn.2.1 y (by omega)).1
    show gsN6 ρ y + ρ (6 + y) ≤ (y + 1) * 999
    omega
theorem g6_mono {y : Nat} : ∀ {n}, y ≤ n → gsN6 ρ y ≤ gsN6 ρ n
  | 0, h => by rw [show y = 0 by omega]; exact Nat.le_refl _
  | n + 1, h => by
    by_cases e : y = n + 1
    · rw [e]; exact Nat.le_refl _
    · have := g6_mono (y := y) (n := n) (by omega)
      show _ ≤ gsN6 ρ n + ρ (6 + n)
      omega
theorem ltW_cong {w w' : Nat → Nat} {c : Nat} : ∀ {y}, (∀ j, j < y → w j = w' j) → ltW ρ w y c = ltW ρ w' y c
  | 0, _ => rfl
  | y + 1, h => by
    show ltW ρ w y c + (if w y = c then ρ (6 + y) else 0) = ltW ρ w' y c + (if w' y = c then ρ (6 + y) else 0)
    rw [ltW_cong (fun j hj => h j (by omega)), h y (by omega)]
/-- no more than all who are not placed yet come to a street's ends -/
theorem ltW_two {w : Nat → Nat} {a b y : Nat} (hab : a ≠ b) : ∀ n, y ≤ n → ltW ρ w n a + ltW ρ w n b + gsN6 ρ y ≤ ltW ρ w y a + ltW ρ w y b + gsN6 ρ n
  | 0, h => by rw [show y = 0 by omega]; exact Nat.le_refl _
  | n + 1, h => by
    by_cases e : y = n + 1
    · rw [e]; exact Nat.le_refl _
    · have ih := ltW_two (w := w) (y := y) hab n (by omega)
      show ltW ρ w n a + (if w n = a then ρ (6 + n) else 0) + (ltW ρ w n b + (if w n = b then ρ (6 + n) else 0)) + gsN6 ρ y ≤ _ + (gsN6 ρ n + ρ (6 + n))
      by_cases h1 : w n = a
      · rw [if_pos h1, if_neg (by omega)]; omega
      · rw [if_neg h1]
        split <;> omega
/-- the target: what the first best places are like -/
def tgT (τ : Nat → Nat → Nat) (ρ tt : Nat → Nat) (b : Nat) : Prop := (∀ y, y < tY τ → ρ (6 + y) = 0 → tt y = 0) ∧ (∀ a y, a < y → y < tY τ → ρ (6 + a) = ρ (6 + y) → tt a ≤ tt y) ∧ (∀ y, y < tY τ → tt y < tC τ) ∧ ctN τ ρ tt = b ∧ (∀ w : Nat → Nat, (∀ y, y < tY τ → w y < tC τ) → ctN τ ρ w ≤ b) ∧ ∀ (w : Nat → Nat) (j : Nat), (∀ y, y < tY τ → w y < tC τ) → j < tY τ → (∀ i, i < j → w i = tt i) → w j < tt j → ctN τ ρ w < b
theorem tg_of {w : Nat → Nat} (hw : wfT τ) (wn : wfN τ ρ) (B : isBest τ ρ b w) : tgT τ ρ (fun y => if ρ (12 + y) = 0 then w y else 0) b := by
  have hY : tY τ ≤ 6 := hw.2.2.1
  have out : ∀ y, y < tY τ → ρ (6 + y) ≠ 0 → ρ (12 + y) = 0 := fun y hy hg => by
    have h := wn.2.1 y (by omega)
    rcases (by omega : ρ (12 + y) = 0 ∨ ρ (12 + y) = 1) with e | e
    · exact e
    · exact absurd (h.2.2.2.1 e) hg
  have z : ∀ y, y < tY τ → ρ (6 + y) = 0 → (if ρ (12 + y) = 0 then w y else 0) = 0 := fun y hy hg => by
    by_cases e : ρ (12 + y) = 0
    · rw [if_pos e]; exact best_0 hw wn B hy e hg
    · rw [if_neg e]
  have okc : ∀ u : Nat → Nat, (∀ y, y < tY τ → u y < tC τ) → okW2 τ ρ u := fun u h y hy _ => h y hy
  refine ⟨z, fun a y ha hy hg => ?_, fun y hy => ?_, ?_, fun u hu => ?_, fun u j hu hj he hl => ?_⟩
  · show (if ρ (12 + a) = 0 then w a else 0) ≤ if ρ (12 + y) = 0 then w y else 0
    by_cases hz : ρ (6 + y) = 0
    · rw [z a (by omega) (by omega), z y hy hz]; exact Nat.le_refl _
    · rw [if_pos (out y hy hz), if_pos (out a (by omega) (by omega))]
      exact best_s hw wn B hy ha (out y hy hz) (out a (by omega) (by omega)) hg
  · show (if ρ (12 + y) = 0 then w y else 0) < tC τ
    have := wn.1 y hy
    by_cases e : ρ (12 + y) = 0
    · rw [if_pos e]; exact B.1 y hy e
    · rw [if_neg e]; omega
  · rw [← B.2.1, cnt_e hw wn]
    exact ct_cong (fun y hy hg => if_pos (out y hy hg))
  · have := (B.2.2 u (okc u hu)).1
    rw [cnt_e hw wn] at this
    exact this
  · have h1 := B.2.2 u (okc u hu)
    rw [cnt_e hw wn] at h1
    have hl : u j < if ρ (12 + j) = 0 then w j else 0 := hl
    have hj0 : ρ (12 + j) = 0 := by
      by_cases e : ρ (12 + j) = 0
      · exact e
      · rw [if_neg e] at hl; omega
    rw [if_pos hj0] at hl
    rcases Nat.lt_or_ge (ctN τ ρ u) b with q | q
    · exact q
    · exfalso
      rcases h1.2 (by omega) with h | ⟨k, k1, k2, k3, k4⟩
      · have := h j hj hj0; omega
      · rcases Nat.lt_trichotomy k j with q | q | q
        · have e : u k = if ρ (12 + k) = 0 then w k else 0 := he k q
          rw [if_pos k2] at e
          omega
        · subst q; omega
        · have := k4 j q hj0; omega
def stX (τ : Nat → Nat → Nat) (ρ : Nat → Nat) (t la : Nat) (M : Mem) : Prop := TC t τ M ∧ NC 60 t τ ρ M ∧ M.1 48 6 = nI la
theorem stX.sf (h : stX τ ρ t la M) (f : SF M M') : stX τ ρ t la M' := by
  refine ⟨h.1.of (fun a ha => f.1.1 a (by simp; omega)), h.2.1.of (fun a ha hb => f.1.1 a (by simp; omega)) (by rw [f.1.2]), f.2.1.trans h.2.2⟩
theorem stX.g (h : stX τ ρ t la M) {y : Nat} (hy : y < 6) : M.1 (60 + 2) y = nI (ρ (6 + y)) := (h.2.1.2.2.2.2.2.2.2.1 y hy).1
/-- not found yet; found -/
def nbS (b : Nat) (M : Mem) : Prop := ∃ m, m < b ∧ M.1 48 1 = nI m
def fbS (τ : Nat → Nat → Nat) (tt : Nat → Nat) (b : Nat) (M : Mem) : Prop := M.1 48 1 = nI b ∧ ∀ j, j < tY τ → M.1 49 j = nI (tt j)
def eqP (tt w : Nat → Nat) (y : Nat) : Prop := ∀ j, j < y → w j = tt j
def ltP (tt w : Nat → Nat) (y : Nat) : Prop := ∃ j, j < y ∧ (∀ i, i < j → w i = tt i) ∧ w j < tt j
def hpN (τ : Nat → Nat → Nat) (ρ w : Nat → Nat) (y : Nat) : Nat := sumN (fun s => if τ 3 s ≤ ltW ρ w y (τ 1 s) + ltW ρ w y (τ 2 s) + (gsN6 ρ (tY τ) - gsN6 ρ y) then 1 else 0) (tS τ)
theorem ct_10 (hw : wfT τ) (w : Nat → Nat) : ctN τ ρ w ≤ 10 := by
  have hS : tS τ ≤ 10 := hw.2.1
  have h : ctN τ ρ w ≤ tS τ * 1 := sumN_le (fun k hk => by split <;> omega)
  omega
theorem hp_ge {w w' : Nat → Nat} {y : Nat} (hw : wfT τ) (hy : y ≤ tY τ) (h : ∀ j, j < y → w' j = w j) : ctN τ ρ w' ≤ hpN τ ρ w y := by
  refine sumN_mono (fun s hs => ?_)
  obtain ⟨q1, q2, q3, -, -⟩ := hw.2.2.2.2.2.2 s hs
  have h1 := ltW_two (ρ := ρ) (w := w') q3 (tY τ) hy
  rw [ltW_cong (c := τ 1 s) h, ltW_cong (c := τ 2 s) h] at h1
  have hm := g6_mono (ρ := ρ) hy
  have e1 : Lw τ ρ w' (τ 1 s) = ltW ρ w' (tY τ) (τ 1 s) := rfl
  have e2 : Lw τ ρ w' (τ 2 s) = ltW ρ w' (tY τ) (τ 2 s) := rfl
  by_cases hc : τ 3 s ≤ Lw τ ρ w' (τ 1 s) + Lw τ ρ w' (τ 2 s)
  · rw [if_pos hc, if_pos (by omega)]
    exact Nat.le_refl _
  · rw [if_neg hc]; omega
theorem c_hope {w : Nat → Nat} {y : Nat} (hw : wfT τ) (wn : wfN τ ρ) (X : stX τ ρ t la M) (hy : y ≤ tY τ) (hl : ∀ c, c < 7 → M.1 50 c = nI (ltW ρ w y c)) : f_X5_litWith t (nI (gsN6 ρ (tY τ) - gsN6 ρ y)) M = some (nI (hpN τ ρ w y)) := by
  have hS : tS τ ≤ 10 := hw.2.1
  have hC : tC τ ≤ 7 := hw.1
  have hY : tY τ ≤ 6 := hw.2.2.1
  have hT := X.1
  have g6 := g6_le wn (tY τ) hY
  have gy := g6_le wn y (by omega)
  have key : f_X5_litWith_L5 t FU (nI (gsN6 ρ (tY τ) - gsN6 ρ y)) 0 0 M = some (nI (hpN τ ρ w y)) := by
    refine loop0 (fun fu s => f_X5_litWith_L5 t fu (nI (gsN6 ρ (tY τ) - gsN6 ρ y)) (nI (sumN (fun s => if τ 3 s ≤ ltW ρ w y (τ 1 s) + ltW ρ w y (τ 2 s) + (gsN6 ρ (tY τ) - gsN6 ρ y) then 1 else 0) s)) (nI s) M) _ (tS τ) (by omega) (fun fu => ?_) (fun fu s hs => ?_)
    · show f_X5_litWith_L5 t (fu + 1) _ _ _ M = _
      rw [f_X5_litWith_L5, hT.2.2.1, if_pos (nI_le (Nat.le_refl _) (by omega))]
      rfl
    · show f_X5_litWith_L5 t (fu + 1) _ _ _ M = f_X5_litWith_L5 t fu _ _ _ M
      obtain ⟨h1, h2, h3⟩ := hT.2.2.2.2.2.2.2.1 s hs
      obtain ⟨q1, q2, -, -, q4⟩ := hw.2.2.2.2.2.2 s hs
      have l1 := ltW_le (ρ := ρ) w (τ 1 s) y
      have l2 := ltW_le (ρ := ρ) w (τ 2 s) y
      rw [f_X5_litWith_L5, hT.2.2.1, if_neg (nI_ge hs (by omega)), ag_n (by omega) (by omega), sb, h1, ag_n (by omega) (by omega), sb, hl _ (by omega), ag_n (by omega) (by omega), sb, h2, ag_n (by omega) (by omega), sb, hl _ (by omega), ag_n (by omega) (by omega), sb, h3, nI_add, nI_add, sumN_s]
      simp only [lt_def]
      rw [nI_1 s]
      by_cases hc : τ 3 s ≤ ltW ρ w y (τ 1 s) + ltW ρ w y (τ 2 s) + (gsN6 ρ (tY τ) - gsN6 ρ y)
      · rw [if_neg (nI_nlt' (nI_le hc (by omega))), if_pos hc, nI_1]
      · rw [if_pos (nI_lt' (by omega) (by omega)), if_neg hc]
        rfl
  unfold f_X5_litWith
  rw [key, sb]
theorem c_low {w : Nat → Nat} {y : Nat} (hY : y < 6) (X : stX τ ρ t la M) (wn : wfN τ ρ) (hwh : ∀ j, j < y → M.1 52 j = nI (w j)) : ∃ v, f_X5_lowestFor 60 (nI y) M = some (nI v) ∧ ((∃ j, j < y ∧ ρ (6 + j) = ρ (6 + y) ∧ v = w j) ∨ v = 0) := by
  have gy := (wn.2.1 y hY).1
  obtain ⟨a, e, v, q1, q2⟩ := loopQ (fun fu k (_ : Unit) => f_X5_lowestFor_L4 60 (fun _ => some (0 : Int32)) fu (nI y) (if k < y then nI (y - 1 - k) else -1) M) (fun _ _ => True) (fun a => ∃ v, a = nI v ∧ ((∃ j, j < y ∧ ρ (6 + j) = ρ (6 + y) ∧ v = w j) ∨ v = 0)) y (by omega) (fun fu s _ => by
      refine ⟨0, ?_, 0, rfl, Or.inr rfl⟩
      show f_X5_lowestFor_L4 60 _ (fu + 1) _ _ _ = _
      rw [f_X5_lowestFor_L4, if_neg (show ¬ y < y by omega), if_pos (by decide)]) (fun fu k s hk _ => by
      obtain ⟨j, hj⟩ : ∃ j, j = y - 1 - k := ⟨_, rfl⟩
      have gj := (wn.2.1 j (by omega)).1
      show (∃ a, f_X5_lowestFor_L4 60 _ (fu + 1) _ _ _ = some a ∧ _) ∨ ∃ s' : Unit, f_X5_lowestFor_L4 60 _ (fu + 1) _ _ _ = f_X5_lowestFor_L4 60 _ fu _ _ _ ∧ _
      have enext : nI j + (-1) = if k + 1 < y then nI (y - 1 - (k + 1)) else -1 := by
        by_cases h : k + 1 < y
        · rw [if_pos h, show j = (y - 1 - (k + 1)) + 1 by omega, pk_m1]
        · rw [if_neg h, show j = 0 by omega]
          decide
      rw [f_X5_lowestFor_L4, if_pos hk, ← hj, if_neg (nI_pos (by omega)), ag_n (by omega) (by omega), sb, X.g (by omega), ag_n (by omega) (by omega), sb, X.g hY]
      by_cases h : ρ (6 + j) = ρ (6 + y)
      · left
        rw [if_pos (by rw [h]), ag_n (by omega) (by omega), sb, hwh j (by omega)]
        exact ⟨_, rfl, w j, rfl, Or.inl ⟨j, by omega, h, rfl⟩⟩
      · right
        rw [if_neg (fun z => h (nI_inj (by omega) (by omega) z)), lt_def, enext]
        exact ⟨(), rfl, trivial⟩) () trivial
  refine ⟨v, ?_, q2⟩
  have e0 : (if 0 < y then nI (y - 1 - 0) else (-1 : Int32)) = nI y - 1 := by
    by_cases h : 0 < y
    · rw [if_pos h, li 1, pk_sub (by omega), Nat.sub_zero]
    · rw [if_neg h, show y = 0 by omega]
      decide
  unfold f_X5_lowestFor
  rw [lt_def, ← e0, ← q1]
  exact e
end CBS

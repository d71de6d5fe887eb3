-- 62.best: who should stand where: the places as numbers, and what the first best one is like
section BES
variable {τ : Nat → Nat → Nat} {ρ : Nat → Nat}
/-- light of c if they stand by w -/
def Lw (τ : Nat → Nat → Nat) (ρ w : Nat → Nat) (c : Nat) : Nat := sumN (fun y => if w y = c then ρ (6 + y) else 0) (tY τ)
def ctN (τ : Nat → Nat → Nat) (ρ w : Nat → Nat) : Nat := sumN (fun s => if τ 3 s ≤ Lw τ ρ w (τ 1 s) + Lw τ ρ w (τ 2 s) then 1 else 0) (tS τ)
theorem lgt_pl (hw : wfT τ) (wn : wfN τ ρ) (w : Nat → Nat) (c : Nat) : lgt τ (plN ρ w) c = Lw τ ρ w c := by
  have hY : tY τ ≤ 6 := hw.2.2.1
  refine sumN_cong (fun y hy => ?_)
  have h := wn.2.1 y (by omega)
  have e6 : plN ρ w (6 + y) = ρ (6 + y) := if_neg (by omega)
  rw [e6]
  rcases (by omega : ρ (12 + y) = 0 ∨ ρ (12 + y) = 1) with e | e
  · have : plN ρ w y = w y := if_pos ⟨by omega, e⟩
    rw [this]
  · rw [h.2.2.2.1 e, ite_self, ite_self]
theorem cnt_e (hw : wfT τ) (wn : wfN τ ρ) (w : Nat → Nat) : cntL τ ρ w = ctN τ ρ w := by
  refine sumN_cong (fun s hs => ?_)
  have h1 := lgt_pl hw wn w (τ 1 s)
  have h2 := lgt_pl hw wn w (τ 2 s)
  by_cases h : τ 3 s ≤ Lw τ ρ w (τ 1 s) + Lw τ ρ w (τ 2 s)
  · have e : litB τ (plN ρ w) s = true := by
      unfold litB need
      rw [h1, h2]
      exact beq_iff_eq.mpr (by omega)
    rw [e, if_pos h, if_pos rfl]
  · have e : litB τ (plN ρ w) s = false := by
      unfold litB need
      rw [h1, h2]
      exact beq_eq_false_iff_ne.mpr (by omega)
    rw [e, if_neg h, if_neg Bool.false_ne_true]
theorem Lw_cong {w w' : Nat → Nat} (h : ∀ y, y < tY τ → ρ (6 + y) ≠ 0 → w y = w' y) (c : Nat) : Lw τ ρ w c = Lw τ ρ w' c := sumN_cong (fun y hy => by
  by_cases e : ρ (6 + y) = 0
  · rw [e, ite_self, ite_self]
  · rw [h y hy e])
theorem ct_of {w w' : Nat → Nat} (h : ∀ c, Lw τ ρ w c = Lw τ ρ w' c) : ctN τ ρ w = ctN τ ρ w' := sumN_cong (fun s _ => by rw [h, h])
theorem ct_cong {w w' : Nat → Nat} (h : ∀ y, y < tY τ → ρ (6 + y) ≠ 0 → w y = w' y) : ctN τ ρ w = ctN τ ρ w' := ct_of (Lw_cong h)
theorem sum_upd {f g : Nat → Nat} {y : Nat} (ho : ∀ k, k ≠ y → f k = g k) : ∀ n, y < n → sumN f n + g y = sumN g n + f y
  | 0, h => absurd h (by omega)
  | n + 1, h => by
    rw [sumN_s, sumN_s]
    by_cases e : y = n
    · subst e
      have : sumN f y = sumN g y := sumN_cong (fun k hk => ho k (by omega))
      omega
    · have ih := sum_upd ho n (by omega)
      have := ho n (fun z => e z.symm)
      omega
/-- two who glow alike change places -/
theorem Lw_swap {w w' : Nat → Nat} {a b : Nat} (hab : a < b) (hb : b < tY τ) (hg : ρ (6 + a) = ρ (6 + b)) (h1 : w' a = w b) (h2 : w' b = w a) (ho : ∀ k, k ≠ a → k ≠ b → w' k = w k) (c : Nat) : Lw τ ρ w' c = Lw τ ρ w c := by
  let m : Nat → Nat := fun k => if k = a then w b else w k
  have e1 := sum_upd (f := fun y => if m y = c then ρ (6 + y) else 0) (g := fun y => if w y = c then ρ (6 + y) else 0) (y := a) (fun k hk => by
    show (if (if k = a then w b else w k) = c then _ else _) = _
    rw [if_neg hk]) (tY τ) (by omega)
  have e2 := sum_upd (f := fun y => if w' y = c then ρ (6 + y) else 0) (g := fun y => if m y = c then ρ (6 + y) else 0) (y := b) (fun k hk => by
    show _ = (if (if k = a then w b else w k) = c then _ else _)
    by_cases e : k = a
    · rw [if_pos e, e, h1]
    · rw [if_neg e, ho k e hk]) (tY τ) hb
  have ma : m a = w b := if_pos rfl
  have mb : m b = w b := if_neg (by omega)
  show sumN (fun y => if w' y = c then ρ (6 + y) else 0) (tY τ) = sumN (fun y => if w y = c then ρ (6 + y) else 0) (tY τ)
  simp only [ma, mb, h2, hg] at e1 e2
  omega
-- the first best one is the only one
theorem lex_anti {w w' : Nat → Nat} (h : lexW τ ρ w w') (h' : lexW τ ρ w' w) : ∀ y, y < tY τ → ρ (12 + y) = 0 → w y = w' y := by
  rcases h with h | ⟨j, h1, h2, h3, h4⟩
  · exact h
  · rcases h' with h' | ⟨k, k1, k2, k3, k4⟩
    · exact fun y hy h0 => (h' y hy h0).symm
    · exfalso
      rcases Nat.lt_trichotomy j k with q | q | q
      · have := k4 j q h2; omega
      · subst q; omega
      · have := h4 k q k2; omega
theorem best_u {b b' : Nat} {w w' : Nat → Nat} (h : isBest τ ρ b w) (h' : isBest τ ρ b' w') : b = b' ∧ ∀ y, y < tY τ → ρ (12 + y) = 0 → w y = w' y := by
  have h1 := h.2.2 w' h'.1
  have h2 := h'.2.2 w h.1
  have hb : b = b' := by
    have := h.2.1
    have := h'.2.1
    omega
  refine ⟨hb, lex_anti (h1.2 (by rw [h'.2.1, hb])) (h2.2 (by rw [h.2.1, hb]))⟩
-- the places as one number
def enN (τ : Nat → Nat → Nat) (ρ w : Nat → Nat) : Nat → Nat
  | 0 => 0
  | m + 1 => if ρ (12 + m) = 0 then enN τ ρ w m * tC τ + w m else enN τ ρ w m
def wyN (τ : Nat → Nat → Nat) (ρ : Nat → Nat) : Nat → Nat
  | 0 => 1
  | m + 1 => if ρ (12 + m) = 0 then wyN τ ρ m * tC τ else wyN τ ρ m
theorem en_lt {w : Nat → Nat} (h : okW2 τ ρ w) : ∀ m, m ≤ tY τ → enN τ ρ w m < wyN τ ρ m
  | 0, _ => Nat.zero_lt_one
  | m + 1, hm => by
    have ih := en_lt h m (by omega)
    unfold enN wyN
    by_cases e : ρ (12 + m) = 0
    · rw [if_pos e, if_pos e]
      have hc := h m (by omega) e
      have := Nat.mul_le_mul_right (tC τ) ih
      rw [Nat.succ_mul] at this
      omega
    · rw [if_neg e, if_neg e]; exact ih
theorem en_lex {w w' : Nat → Nat} (h : okW2 τ ρ w) (h' : okW2 τ ρ w') : ∀ m, m ≤ tY τ → (enN τ ρ w m = enN τ ρ w' m → ∀ y, y < m → ρ (12 + y) = 0 → w y = w' y) ∧ (enN τ ρ w m < enN τ ρ w' m → ∃ j, j < m ∧ ρ (12 + j) = 0 ∧ w j < w' j ∧ ∀ y, y < j → ρ (12 + y) = 0 → w y = w' y)
  | 0, _ => ⟨fun _ y hy => absurd hy (by omega), fun z => absurd z (by show ¬ (0 : Nat) < 0; omega)⟩
  | m + 1, hm => by
    have ih := en_lex h h' m (by omega)
    unfold enN
    by_cases e : ρ (12 + m) = 0
    · rw [if_pos e, if_pos e]
      have c1 := h m (by omega) e
      have c2 := h' m (by omega) e
      obtain ⟨E, hE⟩ : ∃ E, E = enN τ ρ w m := ⟨_, rfl⟩
      obtain ⟨E', hE'⟩ : ∃ E', E' = enN τ ρ w' m := ⟨_, rfl⟩
      rw [← hE, ← hE'] at ih ⊢
      have tri : (E < E' → E * tC τ + w m < E' * tC τ + w' m) ∧ (E' < E → E' * tC τ + w' m < E * tC τ + w m) := by
        constructor
        · intro q
          have := Nat.mul_le_mul_right (tC τ) q
          rw [Nat.succ_mul] at this
          omega
        · intro q
          have := Nat.mul_le_mul_right (tC τ) q
          rw [Nat.succ_mul] at this
          omega
      refine ⟨fun z y hy h0 => ?_, fun z => ?_⟩
      · have q : E = E' := by
          rcases Nat.lt_trichotomy E E' with q | q | q
          · have := tri.1 q; omega
          · exact q
          · have := tri.2 q; omega
        by_cases ey : y = m
        · rw [ey]
          rw [q] at z
          omega
        · exact ih.1 q y (by omega) h0
      · rcases Nat.lt_trichotomy E E' with q | q | q
        · obtain ⟨j, j1, j2, j3, j4⟩ := ih.2 q
          exact ⟨j, by omega, j2, j3, j4⟩
        · refine ⟨m, by omega, e, ?_, fun y hy h0 => ih.1 q y hy h0⟩
          rw [q] at z
          omega
        · have := tri.2 q; omega
    · rw [if_neg e, if_neg e]
      refine ⟨fun z y hy h0 => ?_, fun z => ?_⟩
      · by_cases ey : y = m
        · rw [ey] at h0; exact absurd h0 e
        · exact ih.1 z y (by omega) h0
      · obtain ⟨j, j1, j2, j3, j4⟩ := ih.2 z
        exact ⟨j, by omega, j2, j3, j4⟩
/-- what is left of a number once the places of y and later ones are taken off -/
def lfN (τ : Nat → Nat → Nat) (ρ : Nat → Nat) (way : Nat) : Nat → Nat
  | 0 => way
  | k + 1 => if ρ (12 + (tY τ - (k + 1))) = 0 then lfN τ ρ way k / tC τ else lfN τ ρ way k
/-- the places of a number: y stands at -/
def wW (τ : Nat → Nat → Nat) (ρ : Nat → Nat) (way y : Nat) : Nat := if y < tY τ then lfN τ ρ way (tY τ - (y + 1)) % tC τ else ρ y
theorem lf_lt {way : Nat} (hway : way < wyN τ ρ (tY τ)) : ∀ k, k ≤ tY τ → lfN τ ρ way k < wyN τ ρ (tY τ - k)
  | 0, _ => hway
  | k + 1, hk => by
    have ih := lf_lt hway k (by omega)
    obtain ⟨m, hm⟩ : ∃ m, m = tY τ - (k + 1) := ⟨_, rfl⟩
    rw [show tY τ - k = m + 1 by omega] at ih
    unfold lfN
    rw [← hm]
    unfold wyN at ih
    by_cases e : ρ (12 + m) = 0
    · rw [if_pos e] at ih ⊢
      exact Nat.div_lt_of_lt_mul (by rw [Nat.mul_comm]; exact ih)
    · rw [if_neg e] at ih ⊢; exact ih
theorem en_wW {way : Nat} (hway : way < wyN τ ρ (tY τ)) : ∀ m, m ≤ tY τ → enN τ ρ (wW τ ρ way) m = lfN τ ρ way (tY τ - m)
  | 0, _ => by
    have := lf_lt hway (tY τ) (Nat.le_refl _)
    rw [Nat.sub_self] at this
    have h1 : wyN τ ρ 0 = 1 := rfl
    show 0 = lfN τ ρ way (tY τ - 0)
    rw [Nat.sub_zero]
    omega
  | m + 1, hm => by
    have ih := en_wW hway m (by omega)
    obtain ⟨k, hk⟩ : ∃ k, k = tY τ - (m + 1) := ⟨_, rfl⟩
    rw [show tY τ - m = k + 1 by omega] at ih
    unfold lfN at ih
    rw [show tY τ - (k + 1) = m by omega] at ih
    unfold enN
    rw [← hk]
    by_cases e : ρ (12 + m) = 0
    · rw [if_pos e] at ih ⊢
      rw [ih, wW, if_pos (by omega), ← hk, Nat.mul_comm]
      exact Nat.div_add_mod _ _
    · rw [if_neg e] at ih ⊢; exact ih
theorem ok_wW (hw : wfT τ) (wn : wfN τ ρ) (way : Nat) : okW2 τ ρ (wW τ ρ way) := by
  intro y hy h0
  have := wn.1 y hy
  rw [wW, if_pos hy]
  exact Nat.mod_lt _ (by omega)
/-- the first of the numbers whose places light most -/
theorem best_of {j b : Nat} (hw : wfT τ) (wn : wfN τ ρ) (hj : j < wyN τ ρ (tY τ)) (hb : cntL τ ρ (wW τ ρ j) = b) (h1 : ∀ i, i < wyN τ ρ (tY τ) → cntL τ ρ (wW τ ρ i) ≤ b) (h2 : ∀ i, i < j → cntL τ ρ (wW τ ρ i) < b) : isBest τ ρ b (wW τ ρ j) := by
  refine ⟨ok_wW hw wn j, hb, fun w' ok' => ?_⟩
  have hl := en_lt ok' (tY τ) (Nat.le_refl _)
  obtain ⟨i, hi⟩ : ∃ i, i = enN τ ρ w' (tY τ) := ⟨_, rfl⟩
  rw [← hi] at hl
  have ei := en_wW hl (tY τ) (Nat.le_refl _)
  have ej := en_wW hj (tY τ) (Nat.le_refl _)
  rw [Nat.sub_self] at ei ej
  have ei : enN τ ρ (wW τ ρ i) (tY τ) = i := ei
  have ej : enN τ ρ (wW τ ρ j) (tY τ) = j := ej
  have same := (en_lex (ok_wW hw wn i) ok' (tY τ) (Nat.le_refl _)).1 (by rw [ei, hi])
  have hY : tY τ ≤ 6 := hw.2.2.1
  have ec : cntL τ ρ (wW τ ρ i) = cntL τ ρ w' := by
    rw [cnt_e hw wn, cnt_e hw wn]
    refine ct_cong (fun y hy hg => same y hy ?_)
    have h := wn.2.1 y (by omega)
    rcases (by omega : ρ (12 + y) = 0 ∨ ρ (12 + y) = 1) with e | e
    · exact e
    · exact absurd (h.2.2.2.1 e) hg
  refine ⟨by rw [← ec]; exact h1 i hl, fun hq => ?_⟩
  have hij : j ≤ i := by
    rcases Nat.lt_or_ge i j with q | q
    · have := h2 i q; omega
    · exact q
  rcases Nat.lt_or_ge j i with q | q
  · obtain ⟨z, z1, z2, z3, z4⟩ := (en_lex (ok_wW hw wn j) ok' (tY τ) (Nat.le_refl _)).2 (by rw [ej, ← hi]; exact q)
    exact Or.inr ⟨z, z1, z2, z3, z4⟩
  · have : j = i := by omega
    subst this
    exact Or.inl same
-- the first best one: who does not glow stands at 0, of those who glow alike the later one never lower
theorem best_0 {b y : Nat} {w : Nat → Nat} (hw : wfT τ) (wn : wfN τ ρ) (B : isBest τ ρ b w) (hy : y < tY τ) (h0 : ρ (12 + y) = 0) (hg : ρ (6 + y) = 0) : w y = 0 := by
  have hY : tY τ ≤ 6 := hw.2.2.1
  have hc := wn.1 y hy
  have ok : okW2 τ ρ (fun k => if k = y then 0 else w k) := fun k hk hk0 => by
    show (if k = y then 0 else w k) < tC τ
    split
    · omega
    · exact B.1 k hk hk0
  have e : cntL τ ρ (fun k => if k = y then 0 else w k) = b := by
    rw [← B.2.1, cnt_e hw wn, cnt_e hw wn]
    refine ct_cong (fun k hk hgk => ?_)
    show (if k = y then 0 else w k) = w k
    rw [if_neg (fun z => hgk (by rw [z]; exact hg))]
  rcases (B.2.2 _ ok).2 e with h | ⟨j, h1, h2, h3, h4⟩
  · have h : w y = if y = y then 0 else w y := h y hy h0
    rw [if_pos rfl] at h
    exact h
  · have h3 : w j < if j = y then 0 else w j := h3
    split at h3 <;> omega
theorem best_s {b a y : Nat} {w : Nat → Nat} (hw : wfT τ) (wn : wfN τ ρ) (B : isBest τ ρ b w) (hy : y < tY τ) (ha : a < y) (h0 : ρ (12 + y) = 0) (h0a : ρ (12 + a) = 0) (hg : ρ (6 + a) = ρ (6 + y)) : w a ≤ w y := by
  rcases Nat.lt_or_ge (w y) (w a) with q | q
  case inr => exact q
  exfalso
  have ok : okW2 τ ρ (fun k => if k = a then w y else if k = y then w a else w k) := fun k hk hk0 => by
    show (if k = a then w y else if k = y then w a else w k) < tC τ
    split
    · exact B.1 y hy h0
    · split
      · exact B.1 a (by omega) h0a
      · exact B.1 k hk hk0
  have e : cntL τ ρ (fun k => if k = a then w y else if k = y then w a else w k) = b := by
    rw [← B.2.1, cnt_e hw wn, cnt_e hw wn]
    refine ct_of (Lw_swap ha hy hg (if_pos rfl) ?_ (fun k k1 k2 => ?_))
    · show (if y = a then w y else if y = y then w a else w y) = w a
      rw [if_neg (by omega), if_pos rfl]
    · show (if k = a then w y else if k = y then w a else w k) = w k
      rw [if_neg k1, if_neg k2]
  rcases (B.2.2 _ ok).2 e with h | ⟨j, h1, h2, h3, h4⟩
  · have h : w a = if a = a then w y else _ := h a (by omega) h0a
    rw [if_pos rfl] at h
    omega
  · have h3 : w j < if j = a then w y else if j = y then w a else w j := h3
    by_cases ja : j = a
    · rw [if_pos ja, ja] at h3; omega
    · rw [if_neg ja] at h3
      by_cases jy : j = y
      · have h4 : w a = if a = a then w y else _ := h4 a (by omega) h0a
        rw [if_pos rfl] at h4
        omega
      · rw [if_neg jy] at h3; omega
end BES

-- 54.graph: ways by streets: rounds of relaxing, and when they come to rest
theorem pgn : ∀ (n N : Nat) (g : Nat → Nat), (∀ j, j ≤ N → g j < n) → (∀ i j, i < j → j ≤ N → g i ≠ g j) → N < n
  | 0, N, g, h, _ => absurd (h 0 (Nat.zero_le _)) (by omega)
  | n + 1, N, g, h, hd => by
    by_cases hx : ∃ j, j ≤ N ∧ g j = n
    · obtain ⟨j, hj, ej⟩ := hx
      by_cases hN : N = 0
      · omega
      · have := pgn n (N - 1) (fun i => if i < j then g i else g (i + 1)) (fun i hi => by
          show (if i < j then g i else g (i + 1)) < n
          split
          · have h1 := h i (by omega)
            have h2 := hd i j (by omega) hj
            omega
          · have h1 := h (i + 1) (by omega)
            have h2 := hd j (i + 1) (by omega) (by omega)
            omega) (fun a b hab hb => by
          show (if a < j then g a else g (a + 1)) ≠ (if b < j then g b else g (b + 1))
          split <;> split
          · exact hd a b hab (by omega)
          · exact hd a (b + 1) (by omega) (by omega)
          · omega
          · exact hd (a + 1) (b + 1) (by omega) (by omega))
        omega
    · have := pgn n N g (fun j hj => by
        have h1 := h j hj
        have h2 : g j ≠ n := fun z => hx ⟨j, hj, z⟩
        omega) hd
      omega
section GRA
variable (m : Nat) (A B : Nat → Nat) (op : Nat → Bool) (co : Nat → Nat) (fr : Nat)
def rlx (d : Nat → Nat) (c : Nat) : Nat → Nat
  | 0 => d c
  | s + 1 => if op s = true ∧ A s = c ∧ d (B s) + co s < rlx d c s then d (B s) + co s else if op s = true ∧ B s = c ∧ d (A s) + co s < rlx d c s then d (A s) + co s else rlx d c s
def dJ : Nat → Nat → Nat
  | 0, c => if c = fr then 0 else 1000
  | k + 1, c => rlx A B op co (dJ k) c m
end GRA
section GRB
variable {m : Nat} {A B : Nat → Nat} {op : Nat → Bool} {co : Nat → Nat} {fr : Nat} {d : Nat → Nat} {c : Nat}
theorem rl_s (s : Nat) : rlx A B op co d c (s + 1) = if op s = true ∧ A s = c ∧ d (B s) + co s < rlx A B op co d c s then d (B s) + co s else if op s = true ∧ B s = c ∧ d (A s) + co s < rlx A B op co d c s then d (A s) + co s else rlx A B op co d c s := rfl
theorem rl_mono (s : Nat) : rlx A B op co d c (s + 1) ≤ rlx A B op co d c s := by
  rw [rl_s]
  split
  · omega
  · split <;> omega
theorem rl_le : ∀ {k s : Nat}, k ≤ s → rlx A B op co d c s ≤ rlx A B op co d c k
  | k, 0, h => by rw [show k = 0 by omega]; exact Nat.le_refl _
  | k, s + 1, h => by
    by_cases e : k = s + 1
    · rw [e]; exact Nat.le_refl _
    · exact Nat.le_trans (rl_mono s) (rl_le (by omega))
theorem rl_self (s : Nat) : rlx A B op co d c s ≤ d c := rl_le (k := 0) (Nat.zero_le _)
theorem rl_a {k s : Nat} (hs : s < k) (ho : op s = true) (ha : A s = c) : rlx A B op co d c k ≤ d (B s) + co s := by
  refine Nat.le_trans (rl_le (k := s + 1) hs) ?_
  rw [rl_s]
  by_cases h : d (B s) + co s < rlx A B op co d c s
  · rw [if_pos ⟨ho, ha, h⟩]; exact Nat.le_refl _
  · rw [if_neg (fun z => h z.2.2)]
    split <;> omega
theorem rl_b {k s : Nat} (hs : s < k) (ho : op s = true) (ha : B s = c) : rlx A B op co d c k ≤ d (A s) + co s := by
  refine Nat.le_trans (rl_le (k := s + 1) hs) ?_
  rw [rl_s]
  split
  · next h1 =>
    by_cases h : d (A s) + co s < rlx A B op co d c s
    · have : A s = B s := by rw [ha]; exact h1.2.1
      rw [this]; exact Nat.le_refl _
    · omega
  · by_cases h : d (A s) + co s < rlx A B op co d c s
    · rw [if_pos ⟨ho, ha, h⟩]; exact Nat.le_refl _
    · rw [if_neg (fun z => h z.2.2)]
      omega
theorem rl_cs : ∀ k, rlx A B op co d c k = d c ∨ ∃ s, s < k ∧ op s = true ∧ ((A s = c ∧ rlx A B op co d c k = d (B s) + co s) ∨ (B s = c ∧ rlx A B op co d c k = d (A s) + co s))
  | 0 => Or.inl rfl
  | k + 1 => by
    rw [rl_s]
    split
    · next h => exact Or.inr ⟨k, by omega, h.1, Or.inl ⟨h.2.1, rfl⟩⟩
    · split
      · next h => exact Or.inr ⟨k, by omega, h.1, Or.inr ⟨h.2.1, rfl⟩⟩
      · rcases rl_cs k with h | ⟨s, h1, h2, h3⟩
        · exact Or.inl h
        · exact Or.inr ⟨s, by omega, h2, h3⟩
/-- the other end of a street at c -/
def adj (A B : Nat → Nat) (op : Nat → Bool) (m c u s : Nat) : Prop := s < m ∧ op s = true ∧ ((A s = c ∧ B s = u) ∨ (B s = c ∧ A s = u))
theorem dJ_le (k : Nat) (c : Nat) : dJ m A B op co fr (k + 1) c ≤ dJ m A B op co fr k c := rl_self m
theorem dJ_anti : ∀ {j k : Nat}, j ≤ k → dJ m A B op co fr k c ≤ dJ m A B op co fr j c
  | j, 0, h => by rw [show j = 0 by omega]; exact Nat.le_refl _
  | j, k + 1, h => by
    by_cases e : j = k + 1
    · rw [e]; exact Nat.le_refl _
    · exact Nat.le_trans (dJ_le k c) (dJ_anti (by omega))
theorem dJ_1000 (k c : Nat) : dJ m A B op co fr k c ≤ 1000 := by
  refine Nat.le_trans (dJ_anti (j := 0) (Nat.zero_le k)) ?_
  show (if c = fr then 0 else 1000) ≤ 1000
  split <;> omega
theorem dJ_adj {k c u s : Nat} (h : adj A B op m c u s) : dJ m A B op co fr (k + 1) c ≤ dJ m A B op co fr k u + co s := by
  obtain ⟨h1, h2, ⟨h3, h4⟩ | ⟨h3, h4⟩⟩ := h
  · rw [← h4]; exact rl_a h1 h2 h3
  · rw [← h4]; exact rl_b h1 h2 h3
theorem dJ_imp {k c : Nat} (h : dJ m A B op co fr (k + 1) c < dJ m A B op co fr k c) : ∃ u s, adj A B op m c u s ∧ dJ m A B op co fr (k + 1) c = dJ m A B op co fr k u + co s := by
  rcases rl_cs (A := A) (B := B) (op := op) (co := co) (d := dJ m A B op co fr k) (c := c) m with e | ⟨s, h1, h2, ⟨h3, h4⟩ | ⟨h3, h4⟩⟩
  · exact absurd e (by show ¬ dJ m A B op co fr (k + 1) c = _; omega)
  · exact ⟨B s, s, ⟨h1, h2, Or.inl ⟨h3, rfl⟩⟩, h4⟩
  · exact ⟨A s, s, ⟨h1, h2, Or.inr ⟨h3, rfl⟩⟩, h4⟩
theorem dJ_chain {n : Nat} (hE : ∀ s, s < m → A s < n ∧ B s < n) : ∀ k c, dJ m A B op co fr (k + 1) c < dJ m A B op co fr k c → ∃ g : Nat → Nat, g (k + 1) = c ∧ (∀ j, j ≤ k + 1 → g j < n) ∧ ∀ j, j ≤ k → dJ m A B op co fr j (g j) ≤ dJ m A B op co fr (j + 1) (g (j + 1)) ∧ dJ m A B op co fr (j + 1) (g (j + 1)) < dJ m A B op co fr j (g (j + 1))
  | 0, c, h => by
    obtain ⟨u, s, ha, he⟩ := dJ_imp h
    have hu : u < n ∧ c < n := by
      obtain ⟨h1, -, ⟨h3, h4⟩ | ⟨h3, h4⟩⟩ := ha <;> have := hE s h1 <;> omega
    refine ⟨fun j => if j = 0 then u else c, rfl, fun j hj => ?_, fun j hj => ?_⟩
    · show (if j = 0 then u else c) < n
      split <;> omega
    · have : j = 0 := by omega
      subst this
      show dJ m A B op co fr 0 u ≤ dJ m A B op co fr (0 + 1) c ∧ dJ m A B op co fr (0 + 1) c < dJ m A B op co fr 0 c
      exact ⟨by omega, h⟩
  | k + 1, c, h => by
    obtain ⟨u, s, ha, he⟩ := dJ_imp h
    have hc : c < n := by
      obtain ⟨h1, -, ⟨h3, h4⟩ | ⟨h3, h4⟩⟩ := ha <;> have := hE s h1 <;> omega
    have hu : dJ m A B op co fr (k + 1) u < dJ m A B op co fr k u := by
      have h1 := dJ_adj (co := co) (fr := fr) (k := k) ha
      omega
    obtain ⟨g, g1, g2, g3⟩ := dJ_chain hE k u hu
    refine ⟨fun j => if j = k + 2 then c else g j, if_pos rfl, fun j hj => ?_, fun j hj => ?_⟩
    · show (if j = k + 2 then c else g j) < n
      split
      · exact hc
      · exact g2 j (by omega)
    · show dJ m A B op co fr j (if j = k + 2 then c else g j) ≤ dJ m A B op co fr (j + 1) (if j + 1 = k + 2 then c else g (j + 1)) ∧ dJ m A B op co fr (j + 1) (if j + 1 = k + 2 then c else g (j + 1)) < dJ m A B op co fr j (if j + 1 = k + 2 then c else g (j + 1))
      by_cases e : j = k + 1
      · subst e
        rw [if_neg (by omega), if_pos rfl, g1]
        exact ⟨by omega, h⟩
      · rw [if_neg (by omega), if_neg (by omega)]
        exact g3 j (by omega)
theorem dJ_fix {n : Nat} (hE : ∀ s, s < m → A s < n ∧ B s < n) {k : Nat} (hk : n ≤ k + 1) (c : Nat) : dJ m A B op co fr (k + 1) c = dJ m A B op co fr k c := by
  by_cases h : dJ m A B op co fr (k + 1) c < dJ m A B op co fr k c
  · obtain ⟨g, g1, g2, g3⟩ := dJ_chain hE k c h
    have up : ∀ i q, i + q ≤ k + 1 → dJ m A B op co fr i (g i) ≤ dJ m A B op co fr (i + q) (g (i + q)) := by
      intro i q
      induction q with
      | zero => intro _; exact Nat.le_refl _
      | succ q ih =>
        intro hq
        exact Nat.le_trans (ih (by omega)) (g3 (i + q) (by omega)).1
    have := pgn n (k + 1) g g2 (fun i j hij hj e => by
      have h1 := up i (j - i) (by omega)
      rw [show i + (j - i) = j by omega] at h1
      have h2 := (g3 (j - 1) (by omega)).2
      rw [show j - 1 + 1 = j by omega] at h2
      have h3 := dJ_anti (m := m) (A := A) (B := B) (op := op) (co := co) (fr := fr) (c := g j) (show i ≤ j - 1 by omega)
      rw [e] at h1
      omega)
    omega
  · have := dJ_le (m := m) (A := A) (B := B) (op := op) (co := co) (fr := fr) k c
    omega
theorem dJ_rest {n : Nat} (hE : ∀ s, s < m → A s < n ∧ B s < n) (c : Nat) : ∀ k, n ≤ k + 1 → dJ m A B op co fr k c = dJ m A B op co fr (n - 1) c
  | 0, hk => by rw [show n - 1 = 0 by omega]
  | k + 1, hk => by
    by_cases e : n ≤ k + 1
    · rw [dJ_fix hE e, dJ_rest hE c k e]
    · rw [show n - 1 = k + 1 by omega]
/-- at rest: no street makes it less -/
theorem dJ_ok {n k c u s : Nat} (hE : ∀ s, s < m → A s < n ∧ B s < n) (hk : n ≤ k + 1) (h : adj A B op m c u s) : dJ m A B op co fr k c ≤ dJ m A B op co fr k u + co s := by
  rw [← dJ_fix hE hk c]
  exact dJ_adj h
theorem dJ_fr (k : Nat) : dJ m A B op co fr k fr = 0 := by
  have := dJ_anti (m := m) (A := A) (B := B) (op := op) (co := co) (fr := fr) (c := fr) (j := 0) (Nat.zero_le k)
  have e : dJ m A B op co fr 0 fr = 0 := if_pos rfl
  omega
end GRB

-- 60.round: the shortest round, tried in all orders and built up set by set
theorem and_bz {L s : Nat} (hL : L < 2 ^ 31) : nI L &&& nI (2 ^ s) = 0 ↔ L.testBit s = false := by
  have hlt : L &&& 2 ^ s < 2 ^ 31 := Nat.lt_of_le_of_lt Nat.and_le_left hL
  rw [and_n]
  cases hb : L.testBit s
  · rw [show L &&& 2 ^ s = 0 by
      apply Nat.eq_of_testBit_eq
      intro j
      rw [Nat.testBit_and, Nat.testBit_two_pow, Nat.zero_testBit]
      by_cases e : s = j
      · subst e; rw [hb]; rfl
      · simp [e]]
    exact ⟨fun _ => rfl, fun _ => rfl⟩
  · refine ⟨fun z => ?_, fun z => by cases z⟩
    exfalso
    have h0 : ¬ L &&& 2 ^ s = 0 := fun q => by
      have := congrArg (fun z => Nat.testBit z s) q
      simp only [Nat.testBit_and, hb, Nat.testBit_two_pow, Nat.zero_testBit, decide_true, Bool.true_and] at this
      cases this
    exact nI_ne0 (by omega) hlt z
def deN (X Y : Nat) : Nat := X ^^^ (X &&& Y)
theorem de_bit (X Y s : Nat) : (deN X Y).testBit s = (X.testBit s && !(Y.testBit s)) := xd_bit X Y s
theorem de_lt {X Y n : Nat} (h : X < 2 ^ n) : deN X Y < 2 ^ n := Nat.xor_lt_two_pow h (Nat.lt_of_le_of_lt Nat.and_le_left h)
theorem de_cn {X c : Nat} (hc : c < 7) (hb : X.testBit c = true) : cnN 7 (deN X (2 ^ c)) + 1 = cnN 7 X := by
  have h0 : (deN X (2 ^ c)).testBit c = false := by
    rw [de_bit, Nat.testBit_two_pow]
    simp
  have e : deN X (2 ^ c) ||| 2 ^ c = X := by
    apply Nat.eq_of_testBit_eq
    intro j
    rw [Nat.testBit_or, de_bit, Nat.testBit_two_pow]
    by_cases h : c = j
    · subst h; rw [hb]; simp
    · simp [h]
  have := cn_add h0 7
  rw [e, if_pos hc] at this
  omega
theorem cn_0 {X : Nat} (hX : X < 2 ^ 7) (h : cnN 7 X = 0) : X = 0 := by
  have : ∀ X, X < 128 → cnN 7 X = 0 → X = 0 := by decide +kernel
  exact this X hX h
theorem cn_0' : cnN 7 0 = 0 := by decide
theorem mf_cong {p : Nat → Bool} {f g : Nat → Nat} {x : Nat} : ∀ {n}, (∀ k, k < n → p k = true → f k = g k) → mnF p f x n = mnF p g x n
  | 0, _ => rfl
  | n + 1, h => by
    rw [mf_s, mf_s, mf_cong (fun k hk => h k (by omega))]
    by_cases hp : p n = true
    · rw [h n (by omega) hp]
    · rw [if_neg (fun z => hp z.1), if_neg (fun z => hp z.1)]
section RND
variable (D : Nat → Nat → Nat)
/-- the shortest way from p by all of X -/
def rH : Nat → Nat → Nat → Nat
  | 0, _, _ => 0
  | k + 1, p, X => if X = 0 then 0 else mnF (fun c => X.testBit c) (fun c => D p c + rH k c (deN X (2 ^ c))) 1000 7
end RND
section RNE
variable {D : Nat → Nat → Nat}
theorem rH_le : ∀ k p X, rH D k p X ≤ 1000
  | 0, _, _ => by show (0 : Nat) ≤ 1000; omega
  | k + 1, p, X => by
    unfold rH
    split
    · omega
    · exact mf_x _
theorem rH_0 (k p : Nat) : rH D k p 0 = 0 := by
  cases k with
  | zero => rfl
  | succ k => exact if_pos rfl
theorem rH_fu : ∀ k p X, X < 2 ^ 7 → cnN 7 X ≤ k → rH D (k + 1) p X = rH D k p X
  | 0, p, X, hX, h => by
    rw [cn_0 hX (by omega), rH_0, rH_0]
  | k + 1, p, X, hX, h => by
    show (if X = 0 then 0 else _) = (if X = 0 then 0 else _)
    by_cases hz : X = 0
    · rw [if_pos hz, if_pos hz]
    · rw [if_neg hz, if_neg hz]
      refine mf_cong (fun c hc hb => ?_)
      have := de_cn hc hb
      show D p c + rH D (k + 1) c (deN X (2 ^ c)) = D p c + rH D k c (deN X (2 ^ c))
      rw [rH_fu k c (deN X (2 ^ c)) (de_lt hX) (by omega)]
theorem cn_7 (X : Nat) : cnN 7 X ≤ 7 := cn_le 7 X
/-- one more corner: what is left of the way -/
theorem rH_step {p X c : Nat} (hX : X < 2 ^ 7) (hc : c < 7) (hb : X.testBit c = true) : rH D 7 p X ≤ D p c + rH D 7 c (deN X (2 ^ c)) := by
  have h7 := cn_7 X
  have hd := de_cn hc hb
  have e6 : rH D 7 c (deN X (2 ^ c)) = rH D 6 c (deN X (2 ^ c)) := rH_fu 6 c _ (de_lt hX) (by omega)
  rw [e6]
  have hz : X ≠ 0 := fun z => by rw [z, Nat.zero_testBit] at hb; cases hb
  show (if X = 0 then 0 else _) ≤ _
  rw [if_neg hz]
  exact mf_le 7 c hc hb
theorem rH_best {p X : Nat} (hX : X < 2 ^ 7) (hz : X ≠ 0) (hl : rH D 7 p X < 1000) : ∃ c, c < 7 ∧ X.testBit c = true ∧ rH D 7 p X = D p c + rH D 7 c (deN X (2 ^ c)) := by
  have h7 := cn_7 X
  have e : rH D 7 p X = mnF (fun c => X.testBit c) (fun c => D p c + rH D 6 c (deN X (2 ^ c))) 1000 7 := if_neg hz
  rcases mf_at (p := fun c => X.testBit c) (f := fun c => D p c + rH D 6 c (deN X (2 ^ c))) (x := 1000) 7 with h | ⟨c, h1, h2, h3⟩
  · omega
  · have hd := de_cn h1 h2
    have e6 : rH D 7 c (deN X (2 ^ c)) = rH D 6 c (deN X (2 ^ c)) := rH_fu 6 c _ (de_lt hX) (by omega)
    exact ⟨c, h1, h2, by rw [e6, e]; exact h3⟩
-- set by set
/-- what holds of a row of sets and last corners: all below k are gone through -/
def rdI (D : Nat → Nat → Nat) (n N T k b : Nat) (G : Nat → Nat) : Prop :=
  (∀ i, i < 896 → G i ≤ 1000 ∧ T ≤ G i + rH D 7 (i % 7) (deN N (i / 7)) ∧ (G i < 1000 → (i / 7) &&& N = i / 7 ∧ i % 7 < n ∧ (deN N (i / 7)).testBit (i % 7) = false)) ∧ b ≤ 1000 ∧ T ≤ b ∧ (T < 1000 → b ≤ T ∨ ∃ i, k ≤ i ∧ i < 896 ∧ G i < 1000 ∧ G i + rH D 7 (i % 7) (deN N (i / 7)) ≤ T)
def nxI (k c : Nat) : Nat := 7 * (k / 7 ||| 2 ^ c) + c
theorem nx_ok {k c : Nat} (hk : k < 896) (hc : c < 7) : nxI k c < 896 ∧ nxI k c / 7 = (k / 7 ||| 2 ^ c) ∧ nxI k c % 7 = c := by
  have h1 : k / 7 < 2 ^ 7 := by omega
  have h2 : 2 ^ c < 2 ^ 7 := Nat.pow_lt_pow_right (by decide) hc
  have h3 : k / 7 ||| 2 ^ c < 2 ^ 7 := Nat.or_lt_two_pow h1 h2
  unfold nxI
  omega
theorem nx_gt {k c N : Nat} (hc : c < 7) (hb : (deN N (k / 7)).testBit c = true) : k < nxI k c := by
  rw [de_bit] at hb
  have hb2 : (k / 7).testBit c = false := by
    cases h : (k / 7).testBit c
    · rfl
    · rw [h] at hb; simp at hb
  have : k / 7 < (k / 7 ||| 2 ^ c) := by
    rcases Nat.lt_or_ge (k / 7) (k / 7 ||| 2 ^ c) with h | h
    · exact h
    · exfalso
      have e : (k / 7 ||| 2 ^ c) = k / 7 := Nat.le_antisymm h Nat.left_le_or
      have := congrArg (fun z => Nat.testBit z c) e
      simp only [Nat.testBit_or, hb2, Nat.testBit_two_pow, decide_true, Bool.false_or] at this
      cases this
  unfold nxI
  omega
theorem nx_de {k c N : Nat} : deN N (k / 7 ||| 2 ^ c) = deN (deN N (k / 7)) (2 ^ c) := by
  apply Nat.eq_of_testBit_eq
  intro j
  rw [de_bit, de_bit, de_bit, Nat.testBit_or]
  cases N.testBit j <;> cases (k / 7).testBit j <;> cases (2 ^ c).testBit j <;> rfl
/-- one set more, from k by c -/
theorem rd_set {n N T k b c : Nat} {G : Nat → Nat} (hN : N < 2 ^ 7) (hk : k < 896) (hc : c < n) (hn : n ≤ 7) (hb : (deN N (k / 7)).testBit c = true) (hG : G k < 1000) (I : rdI D n N T k b G) (hl : G k + D (k % 7) c < G (nxI k c)) : rdI D n N T k b (fun i => if i = nxI k c then G k + D (k % 7) c else G i) := by
  obtain ⟨I0, I1, I2, I3⟩ := I
  obtain ⟨n1, n2, n3⟩ := nx_ok (c := c) hk (by omega)
  obtain ⟨k1, k2, k3⟩ := I0 k hk
  have st := rH_step (D := D) (p := k % 7) (de_lt hN) (show c < 7 by omega) hb
  refine ⟨fun i hi => ?_, I1, I2, fun hT => ?_⟩
  · show (if i = nxI k c then G k + D (k % 7) c else G i) ≤ 1000 ∧ T ≤ (if i = nxI k c then G k + D (k % 7) c else G i) + _ ∧ ((if i = nxI k c then G k + D (k % 7) c else G i) < 1000 → _)
    by_cases e : i = nxI k c
    · rw [if_pos e, e, n2, n3, nx_de]
      have := (I0 (nxI k c) n1).1
      refine ⟨by omega, by omega, fun _ => ⟨?_, hc, ?_⟩⟩
      · have hs := (k3 hG).1
        rw [sub_iff] at hs ⊢
        intro j hj
        rw [Nat.testBit_or, Nat.testBit_two_pow] at hj
        by_cases ej : c = j
        · subst ej
          rw [de_bit] at hb
          cases h : N.testBit c
          · rw [h] at hb; cases hb
          · rfl
        · apply hs
          simpa [ej] using hj
      · rw [de_bit, Nat.testBit_two_pow]
        simp
    · rw [if_neg e]; exact I0 i hi
  · rcases I3 hT with h | ⟨i, h1, h2, h3, h4⟩
    · exact Or.inl h
    · refine Or.inr ⟨i, h1, h2, ?_, ?_⟩
      · show (if i = nxI k c then G k + D (k % 7) c else G i) < 1000
        by_cases e : i = nxI k c
        · rw [if_pos e]; rw [e] at h3; omega
        · rw [if_neg e]; exact h3
      · show (if i = nxI k c then G k + D (k % 7) c else G i) + _ ≤ T
        by_cases e : i = nxI k c
        · rw [if_pos e]; rw [e] at h4 ⊢; omega
        · rw [if_neg e]; exact h4
/-- k is gone through -/
theorem rd_next {n N T k b b' : Nat} {G : Nat → Nat} (hN : N < 2 ^ 7) (hk : k < 896) (hNn : ∀ c, N.testBit c = true → c < n) (hG : G k < 1000) (I : rdI D n N T k b G) (hs : ∀ c, c < n → (deN N (k / 7)).testBit c = true → G (nxI k c) ≤ G k + D (k % 7) c) (hb : b' = if k / 7 = N ∧ G k < b then G k else b) : rdI D n N T (k + 1) b' G := by
  obtain ⟨I0, I1, I2, I3⟩ := I
  obtain ⟨k1, k2, k3⟩ := I0 k hk
  have dz : k / 7 = N → deN N (k / 7) = 0 := fun e => by
    rw [e]
    apply Nat.eq_of_testBit_eq
    intro j
    rw [de_bit, Nat.zero_testBit]
    cases N.testBit j <;> rfl
  have b1 : b' ≤ b := by rw [hb]; split <;> omega
  refine ⟨I0, by omega, ?_, fun hT => ?_⟩
  · rw [hb]
    by_cases h : k / 7 = N ∧ G k < b
    · rw [if_pos h]
      rw [dz h.1, rH_0] at k2
      exact k2
    · rw [if_neg h]; exact I2
  · rcases I3 hT with h | ⟨i, h1, h2, h3, h4⟩
    · exact Or.inl (by omega)
    · by_cases e : i = k
      · subst e
        by_cases hz : i / 7 = N
        · left
          rw [dz hz, rH_0] at h4
          rw [hb]
          by_cases hl : G i < b
          · rw [if_pos ⟨hz, hl⟩]; omega
          · rw [if_neg (fun z => hl z.2)]; omega
        · right
          have hx : deN N (i / 7) ≠ 0 := by
            intro z
            apply hz
            have hs := (k3 hG).1
            rw [sub_iff] at hs
            apply Nat.eq_of_testBit_eq
            intro j
            have hj := congrArg (fun z => Nat.testBit z j) z
            simp only [de_bit, Nat.zero_testBit] at hj
            cases e1 : (i / 7).testBit j
            · rw [e1] at hj; simpa using hj.symm
            · exact (hs j e1).symm
          obtain ⟨c, c1, c2, c3⟩ := rH_best (D := D) (p := i % 7) (de_lt hN) hx (by omega)
          have hcn : c < n := by
            apply hNn
            rw [de_bit] at c2
            cases h : N.testBit c
            · rw [h] at c2; cases c2
            · rfl
          obtain ⟨n1, n2, n3⟩ := nx_ok (c := c) hk c1
          have := hs c hcn c2
          refine ⟨nxI i c, nx_gt c1 c2, n1, ?_, ?_⟩
          · omega
          · rw [n2, n3, nx_de]; omega
      · exact Or.inr ⟨i, by omega, h2, h3, h4⟩
theorem rd_skip {n N T k b : Nat} {G : Nat → Nat} (hG : ¬ G k < 1000) (I : rdI D n N T k b G) : rdI D n N T (k + 1) b G := by
  obtain ⟨I0, I1, I2, I3⟩ := I
  refine ⟨I0, I1, I2, fun hT => ?_⟩
  rcases I3 hT with h | ⟨i, h1, h2, h3, h4⟩
  · exact Or.inl h
  · refine Or.inr ⟨i, ?_, h2, h3, h4⟩
    rcases Nat.lt_or_ge k i with h | h
    · exact h
    · exfalso
      have : i = k := by omega
      subst this
      exact hG h3
theorem rd_end {n N T b : Nat} {G : Nat → Nat} (I : rdI D n N T 896 b G) (hT : T ≤ 1000) : b = T := by
  obtain ⟨I0, I1, I2, I3⟩ := I
  by_cases h : T < 1000
  · rcases I3 h with h | ⟨i, h1, h2, h3, h4⟩
    · omega
    · omega
  · omega
end RNE
